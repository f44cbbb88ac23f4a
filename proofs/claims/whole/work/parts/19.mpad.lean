theorem sga_v (sg : Nat → Int) (cnt p : Int) : (0 ≤ p ∧ p < cnt ∧ sga sg cnt p = sg p.toNat) ∨ (¬ (0 ≤ p ∧ p < cnt) ∧ sga sg cnt p = -6) := by
  unfold sga; split
  · left; omega
  · right; omega
theorem bI_1 (P : Prop) [Decidable P] : bI P = 1 ↔ P := by
  unfold bI; split <;> simp_all
def kdx (s : Int → Int) : Int := (if s 0 = 82 then 2 else 0) + (if s (ksg s - 1) = 73 then 1 else 0)
theorem ks_all (s : Int → Int) : (s 0 = 80 ∧ ksg s = 1 ∧ kdx s = 0) ∨ (s 0 = 73 ∧ ksg s = 1 ∧ kdx s = 1) ∨ (s 0 = 82 ∧ ¬ s 1 = 73 ∧ ksg s = 1 ∧ kdx s = 2) ∨ (s 0 = 82 ∧ s 1 = 73 ∧ ksg s = 2 ∧ kdx s = 3) ∨ (¬ s 0 = 80 ∧ ¬ s 0 = 73 ∧ ¬ s 0 = 82 ∧ ksg s = 0) := by
  by_cases a : s 0 = 80
  · have e : ksg s = 1 := by unfold ksg; rw [if_neg (by omega), if_pos (Or.inl a)]
    left; refine ⟨a, e, ?_⟩
    unfold kdx; rw [e, show (1 : Int) - 1 = 0 from rfl, if_neg (by omega), if_neg (by omega)]; rfl
  · by_cases b : s 0 = 73
    · have e : ksg s = 1 := by unfold ksg; rw [if_neg (by omega), if_pos (Or.inr b)]
      right; left; refine ⟨b, e, ?_⟩
      unfold kdx; rw [e, show (1 : Int) - 1 = 0 from rfl, if_neg (by omega), if_pos b]; rfl
    · by_cases c : s 0 = 82
      · by_cases d : s 1 = 73
        · have e : ksg s = 2 := by unfold ksg; rw [if_pos c, if_pos d]
          right; right; right; left; refine ⟨c, d, e, ?_⟩
          unfold kdx; rw [e, show (2 : Int) - 1 = 1 from rfl, if_pos c, if_pos d]; rfl
        · have e : ksg s = 1 := by unfold ksg; rw [if_pos c, if_neg d]
          right; right; left; refine ⟨c, d, e, ?_⟩
          unfold kdx; rw [e, show (1 : Int) - 1 = 0 from rfl, if_pos c, if_neg (by omega)]; rfl
      · right; right; right; right
        refine ⟨a, b, c, ?_⟩
        unfold ksg; rw [if_neg c, if_neg (by omega)]
theorem ff_at (s : Int → Int) (cnt g : Int) (h : ksg s = g) : (g = 0 ∧ fft s cnt = 0) ∨ (g ≠ 0 ∧ (s g < 48 ∨ 57 < s g) ∧ fft s cnt = g) ∨ (g ≠ 0 ∧ 48 ≤ s g ∧ s g ≤ 57 ∧ s g = 49 ∧ (s (g + 1) = 48 ∨ s (g + 1) = 49) ∧ (g + 2 < cnt ∧ fft s cnt = g + 2 ∨ cnt ≤ g + 2 ∧ fft s cnt = -6)) ∨ (g ≠ 0 ∧ 48 ≤ s g ∧ s g ≤ 57 ∧ ¬ (s g = 49 ∧ (s (g + 1) = 48 ∨ s (g + 1) = 49)) ∧ (g + 1 < cnt ∧ fft s cnt = g + 1 ∨ cnt ≤ g + 1 ∧ fft s cnt = -6)) := by
  unfold fft ffe
  rw [h]
  (repeat' split) <;> omega
theorem fn_at1 (s : Int → Int) (cnt g : Int) (h : ksg s = g) (hc : cnt = g + 1) : fnm s cnt = kdx s * 12 + (s g - 48) := by
  unfold fnm
  rw [h, show (cnt - g).toNat = 1 by omega]
  unfold kdx
  rw [h]
  show _ + (0 * 10 + s (g + ((0 : Nat) : Int)) - 48) = _
  rw [show g + ((0 : Nat) : Int) = g by omega]
  omega
theorem fn_at2 (s : Int → Int) (cnt g : Int) (h : ksg s = g) (hc : cnt = g + 2) : fnm s cnt = kdx s * 12 + ((s g - 48) * 10 + s (g + 1) - 48) := by
  unfold fnm
  rw [h, show (cnt - g).toNat = 2 by omega]
  unfold kdx
  rw [h]
  show _ + ((0 * 10 + s (g + ((0 : Nat) : Int)) - 48) * 10 + s (g + ((1 : Nat) : Int)) - 48) = _
  rw [show g + ((0 : Nat) : Int) = g by omega, show g + ((1 : Nat) : Int) = g + 1 by omega]
  omega
def tset (m : Nat → Int) (t : Nat) (g : Nat → Int) (k : Nat) : Nat → Int := fun j => if 12 * t ≤ j ∧ j < 12 * t + k then g (j - 12 * t) else m j
theorem tset_0 (m : Nat → Int) (t : Nat) (g : Nat → Int) : tset m t g 0 = m := by
  funext j; unfold tset; rw [if_neg (by omega)]
theorem tset_s (m : Nat → Int) (t : Nat) (g : Nat → Int) (k : Nat) : up (tset m t g k) (12 * t + k) (g k) = tset m t g (k + 1) := by
  funext j
  unfold up tset
  by_cases h1 : j = 12 * t + k
  · subst h1; rw [if_pos rfl, if_pos (by omega), show 12 * t + k - 12 * t = k by omega]
  · rw [if_neg h1]
    by_cases h2 : 12 * t ≤ j ∧ j < 12 * t + k
    · rw [if_pos h2, if_pos (by omega)]
    · rw [if_neg h2, if_neg (by omega)]
def kset (q : Nat → Int) (a n : Nat) (f : Nat → Int) : Nat → Int := fun j => if a ≤ j ∧ j < a + n then f (j - a) else q j
theorem kset_0 (q : Nat → Int) (a : Nat) (f : Nat → Int) : kset q a 0 f = q := by
  funext j; unfold kset; rw [if_neg (by omega)]
theorem kset_s (q : Nat → Int) (a k : Nat) (f : Nat → Int) : up (kset q a k f) (a + k) (f k) = kset q a (k + 1) f := by
  funext j
  unfold up kset
  by_cases h1 : j = a + k
  · subst h1; rw [if_pos rfl, if_pos (by omega), show a + k - a = k by omega]
  · rw [if_neg h1]
    by_cases h2 : a ≤ j ∧ j < a + k
    · rw [if_pos h2, if_pos (by omega)]
    · rw [if_neg h2, if_neg (by omega)]
theorem up_self (f : Nat → Int) (k : Nat) : up f k (f k) = f := by
  funext j; unfold up; split
  · next e => rw [e]
  · rfl

theorem rft_n (s : Int → Int) (cnt w : Int) : ∀ (n : Nat) (k : Int) (u : Nat), 0 ≤ k → rft s cnt w n k u = -6 ∨ 0 ≤ rft s cnt w n k u
  | 0, k, u, _ => by unfold rft; split <;> omega
  | n + 1, k, u, h0 => by
    have i1 := rft_n s cnt w n (k + 1) u (by omega)
    have i2 := rft_n s cnt w n (k + 1) (u ||| 2 ^ (tof (s k)).toNat) (by omega)
    unfold rft
    (repeat' split) <;> omega
set_option maxHeartbeats 2000000 in
theorem c_X4_say (d : Nat) (hd : 1 ≤ d) (h : List AC) (pm rf gm ka wr9 : Int) (hO : h[29]? = some (ao 4 (mo pm rf gm ka wr9))) (rc : 0 ≤ pm ∧ pm ≤ 20) (sg : Nat → Int) (hP : h[32]? = some (ai 0 20 sg)) (hs : sn sg) (c : Int) (rc : -2147483648 ≤ c ∧ c < 2147483648) : M0 zX4_say d [vr 29, vi c] h (fun v u => v = some (V_say pm c) ∧ u = if 33 ≤ c ∧ c ≤ 126 ∧ pm < 20 then (h.set 32 (ai 0 20 (up sg pm.toNat c))).set 29 (ao 4 (mo (pm + 1) rf gm ka wr9)) else h) := by
  refine M0.of okX4_say (Nat.le_of_ble_eq_true rfl) ?_
  refine AW.go 1 (pc' := 1) rfl ?_
  refine AW.i2l (pn := 2) rfl rfl (by first | exact bI_rng _ | exact ⟨by omega, by omega⟩) ?_
  refine AW.ldc2 (pn := 5) rfl rfl clX4_48 ?_
  refine AW.ldc2 (pn := 8) rfl rfl clX4_50 ?_
  refine AW.callSF (pn := 11) rfl rfl mlX4_40 (c_X4_in (d - 1) (by omega) _ _ _ _ (by omega) (by omega) (by omega)) rfl rfl (Nat.le_of_ble_eq_true rfl) ⟨by show d - 1 + 1 ≤ d; omega, by show 40 * (d - 1 + 1) ≤ 40 * d; omega⟩ ⟨Nat.zero_le _, Nat.zero_le _⟩ ?_
  refine AW.bnz (tgt := 17) (pn := 14) rfl (by decide) rfl (fun c11 => ?_) (fun c11 => ?_)
  · refine AW.go 1 (pc' := 18) rfl ?_
    refine AW.getf (pn := 21) rfl rfl flX4_52 (by first | assumption | exact set_self (by first | assumption | exact set_self (by first | assumption | exact set_self (by assumption) | exact set_ne (by first | assumption | decide | omega) (by assumption)) | exact set_ne (by first | assumption | decide | omega) (by first | assumption | exact set_self (by assumption) | exact set_ne (by first | assumption | decide | omega) (by assumption))) | exact set_ne (by first | assumption | decide | omega) (by first | assumption | exact set_self (by first | assumption | exact set_self (by assumption) | exact set_ne (by first | assumption | decide | omega) (by assumption)) | exact set_ne (by first | assumption | decide | omega) (by first | assumption | exact set_self (by assumption) | exact set_ne (by first | assumption | decide | omega) (by assumption)))) rfl ?_
    refine AW.go 1 (pc' := 23) rfl ?_
    refine AW.bi (tgt := 29) (pn := 26) rfl (by decide) rfl (by first | exact bI_rng _ | exact ⟨by omega, by omega⟩) (by first | exact bI_rng _ | exact ⟨by omega, by omega⟩) (fun c23 => ?_) (fun c23 => ?_)
    · dsimp only [cmpI] at c23
      refine AW.go 1 (pc' := 30) rfl ?_
      refine AW.getf (pn := 33) rfl rfl flX4_16 (by first | assumption | exact set_self (by first | assumption | exact set_self (by first | assumption | exact set_self (by assumption) | exact set_ne (by first | assumption | decide | omega) (by assumption)) | exact set_ne (by first | assumption | decide | omega) (by first | assumption | exact set_self (by assumption) | exact set_ne (by first | assumption | decide | omega) (by assumption))) | exact set_ne (by first | assumption | decide | omega) (by first | assumption | exact set_self (by first | assumption | exact set_self (by assumption) | exact set_ne (by first | assumption | decide | omega) (by assumption)) | exact set_ne (by first | assumption | decide | omega) (by first | assumption | exact set_self (by assumption) | exact set_ne (by first | assumption | decide | omega) (by assumption)))) rfl ?_
      refine AW.go 1 (pc' := 34) rfl ?_
      refine AW.getf (pn := 37) rfl rfl flX4_52 (by first | assumption | exact set_self (by first | assumption | exact set_self (by first | assumption | exact set_self (by assumption) | exact set_ne (by first | assumption | decide | omega) (by assumption)) | exact set_ne (by first | assumption | decide | omega) (by first | assumption | exact set_self (by assumption) | exact set_ne (by first | assumption | decide | omega) (by assumption))) | exact set_ne (by first | assumption | decide | omega) (by first | assumption | exact set_self (by first | assumption | exact set_self (by assumption) | exact set_ne (by first | assumption | decide | omega) (by assumption)) | exact set_ne (by first | assumption | decide | omega) (by first | assumption | exact set_self (by assumption) | exact set_ne (by first | assumption | decide | omega) (by assumption)))) rfl ?_
      refine AW.go 1 (pc' := 38) rfl ?_
      refine AW.iast (pn := 39) rfl rfl (by first | assumption | exact set_self (by first | assumption | exact set_self (by first | assumption | exact set_self (by assumption) | exact set_ne (by first | assumption | decide | omega) (by assumption)) | exact set_ne (by first | assumption | decide | omega) (by first | assumption | exact set_self (by assumption) | exact set_ne (by first | assumption | decide | omega) (by assumption))) | exact set_ne (by first | assumption | decide | omega) (by first | assumption | exact set_self (by first | assumption | exact set_self (by assumption) | exact set_ne (by first | assumption | decide | omega) (by assumption)) | exact set_ne (by first | assumption | decide | omega) (by first | assumption | exact set_self (by assumption) | exact set_ne (by first | assumption | decide | omega) (by assumption)))) (by decide) (by omega) (by omega) ?_
      refine AW.go 2 (pc' := 41) rfl ?_
      refine AW.getf (pn := 44) rfl rfl flX4_52 (by first | assumption | exact set_self (by first | assumption | exact set_self (by first | assumption | exact set_self (by assumption) | exact set_ne (by first | assumption | decide | omega) (by assumption)) | exact set_ne (by first | assumption | decide | omega) (by first | assumption | exact set_self (by assumption) | exact set_ne (by first | assumption | decide | omega) (by assumption))) | exact set_ne (by first | assumption | decide | omega) (by first | assumption | exact set_self (by first | assumption | exact set_self (by assumption) | exact set_ne (by first | assumption | decide | omega) (by assumption)) | exact set_ne (by first | assumption | decide | omega) (by first | assumption | exact set_self (by assumption) | exact set_ne (by first | assumption | decide | omega) (by assumption)))) rfl ?_
      refine AW.go 2 (pc' := 46) rfl ?_
      refine AW.putf (pn := 49) rfl rfl flX4_52 (by first | assumption | exact set_self (by first | assumption | exact set_self (by first | assumption | exact set_self (by assumption) | exact set_ne (by first | assumption | decide | omega) (by assumption)) | exact set_ne (by first | assumption | decide | omega) (by first | assumption | exact set_self (by assumption) | exact set_ne (by first | assumption | decide | omega) (by assumption))) | exact set_ne (by first | assumption | decide | omega) (by first | assumption | exact set_self (by first | assumption | exact set_self (by assumption) | exact set_ne (by first | assumption | decide | omega) (by assumption)) | exact set_ne (by first | assumption | decide | omega) (by first | assumption | exact set_self (by assumption) | exact set_ne (by first | assumption | decide | omega) (by assumption)))) rfl (by first | trivial | exact bI_01 _ | exact Or.inl rfl | exact Or.inr rfl) ?_
      refine AW.go 1 (pc' := 50) rfl ?_
      refine AW.getf (pn := 53) rfl rfl flX4_52 (by first | assumption | exact set_self (by first | assumption | exact set_self (by first | assumption | exact set_self (by assumption) | exact set_ne (by first | assumption | decide | omega) (by assumption)) | exact set_ne (by first | assumption | decide | omega) (by first | assumption | exact set_self (by assumption) | exact set_ne (by first | assumption | decide | omega) (by assumption))) | exact set_ne (by first | assumption | decide | omega) (by first | assumption | exact set_self (by first | assumption | exact set_self (by assumption) | exact set_ne (by first | assumption | decide | omega) (by assumption)) | exact set_ne (by first | assumption | decide | omega) (by first | assumption | exact set_self (by assumption) | exact set_ne (by first | assumption | decide | omega) (by assumption)))) rfl ?_
      refine AW.ret rfl rfl (Nat.le_refl _) (Nat.le_refl _) ?_
      refine ⟨congrArg some ?_, ?_⟩
      · unfold V_say; (repeat' split) <;> omega
      · first | rw [if_pos (by omega)] | rw [if_neg (by omega)]
        try rfl
    · dsimp only [cmpI] at c23
      refine AW.go 1 (pc' := 28) rfl ?_
      refine AW.ret rfl rfl (Nat.le_refl _) (Nat.le_refl _) ?_
      refine ⟨congrArg some ?_, ?_⟩
      · unfold V_say; (repeat' split) <;> omega
      · first | rw [if_pos (by omega)] | rw [if_neg (by omega)]
        try rfl
  · refine AW.go 1 (pc' := 16) rfl ?_
    refine AW.ret rfl rfl (Nat.le_refl _) (Nat.le_refl _) ?_
    refine ⟨congrArg some ?_, ?_⟩
    · unfold V_say; (repeat' split) <;> omega
    · first | rw [if_pos (by omega)] | rw [if_neg (by omega)]
      try rfl
set_option maxHeartbeats 2000000 in
theorem c_X4_wipe (d : Nat) (hd : 0 ≤ d) (h : List AC) (pm rf gm ka wr9 : Int) (hO : h[29]? = some (ao 4 (mo pm rf gm ka wr9))) (rc : 0 ≤ pm ∧ pm ≤ 20) (sg : Nat → Int) (hP : h[32]? = some (ai 0 20 sg)) (hs : sn sg) : MF zX4_wipe d [vr 29] h pm (h.set 29 (ao 4 (mo 0 rf gm ka wr9))) := by
  refine M0.of okX4_wipe (Nat.le_of_ble_eq_true rfl) ?_
  refine AW.go 1 (pc' := 1) rfl ?_
  refine AW.getf (pn := 4) rfl rfl flX4_52 (by first | assumption | exact set_self (by first | assumption | exact set_self (by first | assumption | exact set_self (by assumption) | exact set_ne (by first | assumption | decide | omega) (by assumption)) | exact set_ne (by first | assumption | decide | omega) (by first | assumption | exact set_self (by assumption) | exact set_ne (by first | assumption | decide | omega) (by assumption))) | exact set_ne (by first | assumption | decide | omega) (by first | assumption | exact set_self (by first | assumption | exact set_self (by assumption) | exact set_ne (by first | assumption | decide | omega) (by assumption)) | exact set_ne (by first | assumption | decide | omega) (by first | assumption | exact set_self (by assumption) | exact set_ne (by first | assumption | decide | omega) (by assumption)))) rfl ?_
  refine AW.go 3 (pc' := 7) rfl ?_
  refine AW.putf (pn := 10) rfl rfl flX4_52 (by first | assumption | exact set_self (by first | assumption | exact set_self (by first | assumption | exact set_self (by assumption) | exact set_ne (by first | assumption | decide | omega) (by assumption)) | exact set_ne (by first | assumption | decide | omega) (by first | assumption | exact set_self (by assumption) | exact set_ne (by first | assumption | decide | omega) (by assumption))) | exact set_ne (by first | assumption | decide | omega) (by first | assumption | exact set_self (by first | assumption | exact set_self (by assumption) | exact set_ne (by first | assumption | decide | omega) (by assumption)) | exact set_ne (by first | assumption | decide | omega) (by first | assumption | exact set_self (by assumption) | exact set_ne (by first | assumption | decide | omega) (by assumption)))) rfl (by first | trivial | exact bI_01 _ | exact Or.inl rfl | exact Or.inr rfl) ?_
  refine AW.go 1 (pc' := 11) rfl ?_
  refine AW.ret rfl rfl (Nat.le_refl _) (Nat.le_refl _) ?_
  exact ⟨rfl, rfl⟩
set_option maxHeartbeats 4000000 in
theorem l_X4_faultOfTones (d : Nat) (hd : 2 ≤ d) (h : List AC) (pm rf gm ka wr9 : Int) (hO : h[29]? = some (ao 4 (mo pm rf gm ka wr9))) (rc : 0 ≤ pm ∧ pm ≤ 20) (sg : Nat → Int) (hP : h[32]? = some (ai 0 20 sg)) (hs : sn sg) (w : Int) (hw : w = 0 ∨ w = 1) : ∀ (n : Nat) (k : Int) (u : Nat), (0 ≤ k) → (k ≤ 12) → (k ≤ pm) → (u < 4096) → ((rft (sga sg pm) pm w 12 0 0) = rft (sga sg pm) pm w (12 - k).toNat k u) → ((20 - k).toNat) < n → AW zX4_faultOfTones Eq (rmd d) 0 0 0 0 4 [(3, vi k), (2, vi (u : Int)), (0, vr 29), (1, vi w)] [] h (RQ (rft (sga sg pm) pm w 12 0 0) h) := by
  intro n
  induction n with
  | zero =>
    intro k u h0 h1 h2 hu hi hn
    exact absurd hn (Nat.not_lt_zero _)
  | succ n ih =>
    intro k u h0 h1 h2 hu hi hn
    refine AW.go 2 (pc' := 6) rfl ?_
    refine AW.getf (pn := 9) rfl rfl flX4_52 (by first | assumption | exact set_self (by first | assumption | exact set_self (by first | assumption | exact set_self (by assumption) | exact set_ne (by first | assumption | decide | omega) (by assumption)) | exact set_ne (by first | assumption | decide | omega) (by first | assumption | exact set_self (by assumption) | exact set_ne (by first | assumption | decide | omega) (by assumption))) | exact set_ne (by first | assumption | decide | omega) (by first | assumption | exact set_self (by first | assumption | exact set_self (by assumption) | exact set_ne (by first | assumption | decide | omega) (by assumption)) | exact set_ne (by first | assumption | decide | omega) (by first | assumption | exact set_self (by assumption) | exact set_ne (by first | assumption | decide | omega) (by assumption)))) rfl ?_
    refine AW.bi (tgt := 95) (pn := 12) rfl (by decide) rfl (by first | exact bI_rng _ | exact ⟨by omega, by omega⟩) (by first | exact bI_rng _ | exact ⟨by omega, by omega⟩) (fun c9 => ?_) (fun c9 => ?_)
    · dsimp only [cmpI] at c9
      refine AW.go 1 (pc' := 96) rfl ?_
      refine AW.getf (pn := 99) rfl rfl flX4_52 (by first | assumption | exact set_self (by first | assumption | exact set_self (by first | assumption | exact set_self (by assumption) | exact set_ne (by first | assumption | decide | omega) (by assumption)) | exact set_ne (by first | assumption | decide | omega) (by first | assumption | exact set_self (by assumption) | exact set_ne (by first | assumption | decide | omega) (by assumption))) | exact set_ne (by first | assumption | decide | omega) (by first | assumption | exact set_self (by first | assumption | exact set_self (by assumption) | exact set_ne (by first | assumption | decide | omega) (by assumption)) | exact set_ne (by first | assumption | decide | omega) (by first | assumption | exact set_self (by assumption) | exact set_ne (by first | assumption | decide | omega) (by assumption)))) rfl ?_
      refine AW.go 1 (pc' := 101) rfl ?_
      refine AW.bi (tgt := 109) (pn := 104) rfl (by decide) rfl (by first | exact bI_rng _ | exact ⟨by omega, by omega⟩) (by first | exact bI_rng _ | exact ⟨by omega, by omega⟩) (fun c101 => ?_) (fun c101 => ?_)
      · dsimp only [cmpI] at c101
        refine AW.go 1 (pc' := 110) rfl ?_
        refine AW.getf (pn := 113) rfl rfl flX4_52 (by first | assumption | exact set_self (by first | assumption | exact set_self (by first | assumption | exact set_self (by assumption) | exact set_ne (by first | assumption | decide | omega) (by assumption)) | exact set_ne (by first | assumption | decide | omega) (by first | assumption | exact set_self (by assumption) | exact set_ne (by first | assumption | decide | omega) (by assumption))) | exact set_ne (by first | assumption | decide | omega) (by first | assumption | exact set_self (by first | assumption | exact set_self (by assumption) | exact set_ne (by first | assumption | decide | omega) (by assumption)) | exact set_ne (by first | assumption | decide | omega) (by first | assumption | exact set_self (by assumption) | exact set_ne (by first | assumption | decide | omega) (by assumption)))) rfl ?_
        refine AW.ret rfl rfl (Nat.le_refl _) (Nat.le_refl _) ?_
        refine ⟨congrArg some ?_, rfl⟩
        rw [hi]
        by_cases e : k = 12
        · rw [show (12 - k).toNat = 0 by omega]
          unfold rft
          rw [if_neg (by omega)]
          all_goals omega
        · have v0 := sga_v sg pm k
          have hsk : sga sg pm k = -6 := by omega
          have hx := rft_s (sga sg pm) pm w k u (by omega)
          rw [hsk] at hx
          rw [hx, if_neg (by omega), if_pos (Or.inl (by decide))]
          all_goals omega
      · dsimp only [cmpI] at c101
        refine AW.go 2 (pc' := 113) rfl ?_
        refine AW.ret rfl rfl (Nat.le_refl _) (Nat.le_refl _) ?_
        refine ⟨congrArg some ?_, rfl⟩
        rw [hi]
        by_cases e : k = 12
        · rw [show (12 - k).toNat = 0 by omega]
          unfold rft
          rw [if_neg (by omega)]
          all_goals omega
        · have v0 := sga_v sg pm k
          have hsk : sga sg pm k = -6 := by omega
          have hx := rft_s (sga sg pm) pm w k u (by omega)
          rw [hsk] at hx
          rw [hx, if_neg (by omega), if_pos (Or.inl (by decide))]
          all_goals omega
    · dsimp only [cmpI] at c9
      refine AW.go 1 (pc' := 13) rfl ?_
      refine AW.getf (pn := 16) rfl rfl flX4_16 (by first | assumption | exact set_self (by first | assumption | exact set_self (by first | assumption | exact set_self (by assumption) | exact set_ne (by first | assumption | decide | omega) (by assumption)) | exact set_ne (by first | assumption | decide | omega) (by first | assumption | exact set_self (by assumption) | exact set_ne (by first | assumption | decide | omega) (by assumption))) | exact set_ne (by first | assumption | decide | omega) (by first | assumption | exact set_self (by first | assumption | exact set_self (by assumption) | exact set_ne (by first | assumption | decide | omega) (by assumption)) | exact set_ne (by first | assumption | decide | omega) (by first | assumption | exact set_self (by assumption) | exact set_ne (by first | assumption | decide | omega) (by assumption)))) rfl ?_
      have v0 := sga_v sg pm k
      have g1 := hs k.toNat (by omega)
      have b2 := tof_b (sg k.toNat)
      have hsk : sga sg pm k = sg k.toNat := by omega
      refine AW.go 1 (pc' := 17) rfl ?_
      refine AW.iald (pn := 18) rfl rfl (by first | assumption | exact set_self (by first | assumption | exact set_self (by first | assumption | exact set_self (by assumption) | exact set_ne (by first | assumption | decide | omega) (by assumption)) | exact set_ne (by first | assumption | decide | omega) (by first | assumption | exact set_self (by assumption) | exact set_ne (by first | assumption | decide | omega) (by assumption))) | exact set_ne (by first | assumption | decide | omega) (by first | assumption | exact set_self (by first | assumption | exact set_self (by assumption) | exact set_ne (by first | assumption | decide | omega) (by assumption)) | exact set_ne (by first | assumption | decide | omega) (by first | assumption | exact set_self (by assumption) | exact set_ne (by first | assumption | decide | omega) (by assumption)))) (by decide) (by omega) (by omega) ?_
      refine AW.callSF (pn := 21) rfl rfl mlX4_60 (c_X4_toneOf (d - 1) (by omega) _ _ (by omega)) rfl rfl (Nat.le_of_ble_eq_true rfl) ⟨by show d - 1 + 1 ≤ d; omega, by show 40 * (d - 1 + 1) ≤ 40 * d; omega⟩ ⟨Nat.zero_le _, Nat.zero_le _⟩ ?_
      refine AW.go 2 (pc' := 24) rfl ?_
      refine AW.br (tgt := 42) (pn := 27) rfl (by decide) rfl (by first | exact bI_rng _ | exact ⟨by omega, by omega⟩) (fun c24 => ?_) (fun c24 => ?_)
      · dsimp only [cmpI] at c24
        refine AW.go 4 (pc' := 48) rfl ?_
        refine AW.bi (tgt := 71) (pn := 51) rfl (by decide) rfl (by first | exact bI_rng _ | exact ⟨by omega, by omega⟩) (by first | exact bI_rng _ | exact ⟨by omega, by omega⟩) (fun c48 => ?_) (fun c48 => ?_)
        · dsimp only [cmpI] at c48
          refine AW.go 1 (pc' := 72) rfl ?_
          refine AW.ret rfl rfl (Nat.le_refl _) (Nat.le_refl _) ?_
          first
            | (exfalso; omega)
            | (refine ⟨congrArg some ?_, rfl⟩
               rw [hi]
               by_cases e : k = 12
               · rw [show (12 - k).toNat = 0 by omega]
                 unfold rft
                 rw [if_pos (by omega)]
                 exact e
               · have hx := rft_s (sga sg pm) pm w k u (by omega)
                 rw [hsk] at hx
                 rw [hx, if_neg (by omega)]
                 first | (rw [if_pos (Or.inl (by omega))]; done) | (rw [if_pos (Or.inr ((bI_1 _).mp (Decidable.not_not.mp c68)))]; done))
        · dsimp only [cmpI] at c48
          refine AW.go 1 (pc' := 53) rfl ?_
          refine AW.br (tgt := 73) (pn := 56) rfl (by decide) rfl (by first | exact bI_rng _ | exact ⟨by omega, by omega⟩) (fun c53 => ?_) (fun c53 => ?_)
          · dsimp only [cmpI] at c53
            refine AW.go 2 (pc' := 76) rfl ?_
            refine AW.br (tgt := 83) (pn := 79) rfl (by decide) rfl (by first | exact bI_rng _ | exact ⟨by omega, by omega⟩) (fun c76 => ?_) (fun c76 => ?_)
            · dsimp only [cmpI] at c76
              refine AW.go 2 (pc' := 86) rfl ?_
              refine AW.shl1 (pn := 87) rfl rfl (by omega) (by omega) ?_
              first | refine AW.orN (pn := 88) rfl rfl ?_ | refine AW.orN (y := 0) (pn := 88) rfl rfl ?_
              refine AW.go 3 (pc' := 4) rfl ?_
              first
                | (exfalso; omega)
                | (have hx := rft_s (sga sg pm) pm w k u (by omega)
                   rw [hsk] at hx
                   first | (refine AW.lw ?_ (ih (k + 1) (u ||| 0) (by omega) (by omega) (by omega) ?_ ?_ (by omega)); exact (And.intro rfl (And.intro rfl (And.intro rfl (And.intro rfl trivial)))); (first | exact Nat.or_lt_two_pow (n := 12) hu (by decide) | exact Nat.or_lt_two_pow (n := 12) hu (pow12 (by omega) (by omega))); (rw [hi, hx]; (first | (rw [if_pos (by omega), Nat.or_zero]; done) | (rw [if_neg (by omega), if_neg (by rintro (q | q); omega; exact c68 ((bI_1 _).mpr q))]; done)))) | (refine AW.lw ?_ (ih (k + 1) (u ||| 2 ^ (tof (sg k.toNat)).toNat) (by omega) (by omega) (by omega) ?_ ?_ (by omega)); exact (And.intro rfl (And.intro rfl (And.intro rfl (And.intro rfl trivial)))); (first | exact Nat.or_lt_two_pow (n := 12) hu (by decide) | exact Nat.or_lt_two_pow (n := 12) hu (pow12 (by omega) (by omega))); (rw [hi, hx]; (first | (rw [if_pos (by omega), Nat.or_zero]; done) | (rw [if_neg (by omega), if_neg (by rintro (q | q); omega; exact c68 ((bI_1 _).mpr q))]; done)))))
            · dsimp only [cmpI] at c76
              refine AW.go 2 (pc' := 87) rfl ?_
              first | refine AW.orN (pn := 88) rfl rfl ?_ | refine AW.orN (y := 0) (pn := 88) rfl rfl ?_
              refine AW.go 3 (pc' := 4) rfl ?_
              first
                | (exfalso; omega)
                | (have hx := rft_s (sga sg pm) pm w k u (by omega)
                   rw [hsk] at hx
                   first | (refine AW.lw ?_ (ih (k + 1) (u ||| 0) (by omega) (by omega) (by omega) ?_ ?_ (by omega)); exact (And.intro rfl (And.intro rfl (And.intro rfl (And.intro rfl trivial)))); (first | exact Nat.or_lt_two_pow (n := 12) hu (by decide) | exact Nat.or_lt_two_pow (n := 12) hu (pow12 (by omega) (by omega))); (rw [hi, hx]; (first | (rw [if_pos (by omega), Nat.or_zero]; done) | (rw [if_neg (by omega), if_neg (by rintro (q | q); omega; exact c68 ((bI_1 _).mpr q))]; done)))) | (refine AW.lw ?_ (ih (k + 1) (u ||| 2 ^ (tof (sg k.toNat)).toNat) (by omega) (by omega) (by omega) ?_ ?_ (by omega)); exact (And.intro rfl (And.intro rfl (And.intro rfl (And.intro rfl trivial)))); (first | exact Nat.or_lt_two_pow (n := 12) hu (by decide) | exact Nat.or_lt_two_pow (n := 12) hu (pow12 (by omega) (by omega))); (rw [hi, hx]; (first | (rw [if_pos (by omega), Nat.or_zero]; done) | (rw [if_neg (by omega), if_neg (by rintro (q | q); omega; exact c68 ((bI_1 _).mpr q))]; done)))))
          · dsimp only [cmpI] at c53
            refine AW.go 1 (pc' := 58) rfl ?_
            refine AW.br (tgt := 71) (pn := 61) rfl (by decide) rfl (by first | exact bI_rng _ | exact ⟨by omega, by omega⟩) (fun c58 => ?_) (fun c58 => ?_)
            · dsimp only [cmpI] at c58
              refine AW.go 1 (pc' := 72) rfl ?_
              refine AW.ret rfl rfl (Nat.le_refl _) (Nat.le_refl _) ?_
              first
                | (exfalso; omega)
                | (refine ⟨congrArg some ?_, rfl⟩
                   rw [hi]
                   by_cases e : k = 12
                   · rw [show (12 - k).toNat = 0 by omega]
                     unfold rft
                     rw [if_pos (by omega)]
                     exact e
                   · have hx := rft_s (sga sg pm) pm w k u (by omega)
                     rw [hsk] at hx
                     rw [hx, if_neg (by omega)]
                     first | (rw [if_pos (Or.inl (by omega))]; done) | (rw [if_pos (Or.inr ((bI_1 _).mp (Decidable.not_not.mp c68)))]; done))
            · dsimp only [cmpI] at c58
              refine AW.go 2 (pc' := 64) rfl ?_
              have g3 := @shr_nn u (tof (sg k.toNat))
              refine AW.ishr (pn := 65) rfl rfl (by first | exact bI_rng _ | exact ⟨by omega, by omega⟩) (by omega) (by omega) ?_
              refine AW.go 1 (pc' := 66) rfl ?_
              refine AW.iand (pn := 67) rfl rfl (by omega) (by omega) ?_
              rw [shr_bit (by omega)]
              have hbb : (if u.testBit (tof (sg k.toNat)).toNat = true then (1 : Int) else 0) = bI (u.testBit (tof (sg k.toNat)).toNat = true) := rfl
              rw [hbb]
              refine AW.go 1 (pc' := 68) rfl ?_
              refine AW.bi (tgt := 73) (pn := 71) rfl (by decide) rfl (by first | exact bI_rng _ | exact ⟨by omega, by omega⟩) (by first | exact bI_rng _ | exact ⟨by omega, by omega⟩) (fun c68 => ?_) (fun c68 => ?_)
              · dsimp only [cmpI] at c68
                refine AW.go 2 (pc' := 76) rfl ?_
                refine AW.br (tgt := 83) (pn := 79) rfl (by decide) rfl (by first | exact bI_rng _ | exact ⟨by omega, by omega⟩) (fun c76 => ?_) (fun c76 => ?_)
                · dsimp only [cmpI] at c76
                  refine AW.go 2 (pc' := 86) rfl ?_
                  refine AW.shl1 (pn := 87) rfl rfl (by omega) (by omega) ?_
                  first | refine AW.orN (pn := 88) rfl rfl ?_ | refine AW.orN (y := 0) (pn := 88) rfl rfl ?_
                  refine AW.go 3 (pc' := 4) rfl ?_
                  first
                    | (exfalso; omega)
                    | (have hx := rft_s (sga sg pm) pm w k u (by omega)
                       rw [hsk] at hx
                       first | (refine AW.lw ?_ (ih (k + 1) (u ||| 0) (by omega) (by omega) (by omega) ?_ ?_ (by omega)); exact (And.intro rfl (And.intro rfl (And.intro rfl (And.intro rfl trivial)))); (first | exact Nat.or_lt_two_pow (n := 12) hu (by decide) | exact Nat.or_lt_two_pow (n := 12) hu (pow12 (by omega) (by omega))); (rw [hi, hx]; (first | (rw [if_pos (by omega), Nat.or_zero]; done) | (rw [if_neg (by omega), if_neg (by rintro (q | q); omega; exact c68 ((bI_1 _).mpr q))]; done)))) | (refine AW.lw ?_ (ih (k + 1) (u ||| 2 ^ (tof (sg k.toNat)).toNat) (by omega) (by omega) (by omega) ?_ ?_ (by omega)); exact (And.intro rfl (And.intro rfl (And.intro rfl (And.intro rfl trivial)))); (first | exact Nat.or_lt_two_pow (n := 12) hu (by decide) | exact Nat.or_lt_two_pow (n := 12) hu (pow12 (by omega) (by omega))); (rw [hi, hx]; (first | (rw [if_pos (by omega), Nat.or_zero]; done) | (rw [if_neg (by omega), if_neg (by rintro (q | q); omega; exact c68 ((bI_1 _).mpr q))]; done)))))
                · dsimp only [cmpI] at c76
                  refine AW.go 2 (pc' := 87) rfl ?_
                  first | refine AW.orN (pn := 88) rfl rfl ?_ | refine AW.orN (y := 0) (pn := 88) rfl rfl ?_
                  refine AW.go 3 (pc' := 4) rfl ?_
                  first
                    | (exfalso; omega)
                    | (have hx := rft_s (sga sg pm) pm w k u (by omega)
                       rw [hsk] at hx
                       first | (refine AW.lw ?_ (ih (k + 1) (u ||| 0) (by omega) (by omega) (by omega) ?_ ?_ (by omega)); exact (And.intro rfl (And.intro rfl (And.intro rfl (And.intro rfl trivial)))); (first | exact Nat.or_lt_two_pow (n := 12) hu (by decide) | exact Nat.or_lt_two_pow (n := 12) hu (pow12 (by omega) (by omega))); (rw [hi, hx]; (first | (rw [if_pos (by omega), Nat.or_zero]; done) | (rw [if_neg (by omega), if_neg (by rintro (q | q); omega; exact c68 ((bI_1 _).mpr q))]; done)))) | (refine AW.lw ?_ (ih (k + 1) (u ||| 2 ^ (tof (sg k.toNat)).toNat) (by omega) (by omega) (by omega) ?_ ?_ (by omega)); exact (And.intro rfl (And.intro rfl (And.intro rfl (And.intro rfl trivial)))); (first | exact Nat.or_lt_two_pow (n := 12) hu (by decide) | exact Nat.or_lt_two_pow (n := 12) hu (pow12 (by omega) (by omega))); (rw [hi, hx]; (first | (rw [if_pos (by omega), Nat.or_zero]; done) | (rw [if_neg (by omega), if_neg (by rintro (q | q); omega; exact c68 ((bI_1 _).mpr q))]; done)))))
              · dsimp only [cmpI] at c68
                refine AW.go 1 (pc' := 72) rfl ?_
                refine AW.ret rfl rfl (Nat.le_refl _) (Nat.le_refl _) ?_
                first
                  | (exfalso; omega)
                  | (refine ⟨congrArg some ?_, rfl⟩
                     rw [hi]
                     by_cases e : k = 12
                     · rw [show (12 - k).toNat = 0 by omega]
                       unfold rft
                       rw [if_pos (by omega)]
                       exact e
                     · have hx := rft_s (sga sg pm) pm w k u (by omega)
                       rw [hsk] at hx
                       rw [hx, if_neg (by omega)]
                       first | (rw [if_pos (Or.inl (by omega))]; done) | (rw [if_pos (Or.inr ((bI_1 _).mp (Decidable.not_not.mp c68)))]; done))
      · dsimp only [cmpI] at c24
        refine AW.go 1 (pc' := 28) rfl ?_
        refine AW.getf (pn := 31) rfl rfl flX4_16 (by first | assumption | exact set_self (by first | assumption | exact set_self (by first | assumption | exact set_self (by assumption) | exact set_ne (by first | assumption | decide | omega) (by assumption)) | exact set_ne (by first | assumption | decide | omega) (by first | assumption | exact set_self (by assumption) | exact set_ne (by first | assumption | decide | omega) (by assumption))) | exact set_ne (by first | assumption | decide | omega) (by first | assumption | exact set_self (by first | assumption | exact set_self (by assumption) | exact set_ne (by first | assumption | decide | omega) (by assumption)) | exact set_ne (by first | assumption | decide | omega) (by first | assumption | exact set_self (by assumption) | exact set_ne (by first | assumption | decide | omega) (by assumption)))) rfl ?_
        refine AW.go 1 (pc' := 32) rfl ?_
        refine AW.iald (pn := 33) rfl rfl (by first | assumption | exact set_self (by first | assumption | exact set_self (by first | assumption | exact set_self (by assumption) | exact set_ne (by first | assumption | decide | omega) (by assumption)) | exact set_ne (by first | assumption | decide | omega) (by first | assumption | exact set_self (by assumption) | exact set_ne (by first | assumption | decide | omega) (by assumption))) | exact set_ne (by first | assumption | decide | omega) (by first | assumption | exact set_self (by first | assumption | exact set_self (by assumption) | exact set_ne (by first | assumption | decide | omega) (by assumption)) | exact set_ne (by first | assumption | decide | omega) (by first | assumption | exact set_self (by assumption) | exact set_ne (by first | assumption | decide | omega) (by assumption)))) (by decide) (by omega) (by omega) ?_
        refine AW.go 1 (pc' := 35) rfl ?_
        refine AW.bi (tgt := 42) (pn := 38) rfl (by decide) rfl (by first | exact bI_rng _ | exact ⟨by omega, by omega⟩) (by first | exact bI_rng _ | exact ⟨by omega, by omega⟩) (fun c35 => ?_) (fun c35 => ?_)
        · dsimp only [cmpI] at c35
          refine AW.go 4 (pc' := 48) rfl ?_
          refine AW.bi (tgt := 71) (pn := 51) rfl (by decide) rfl (by first | exact bI_rng _ | exact ⟨by omega, by omega⟩) (by first | exact bI_rng _ | exact ⟨by omega, by omega⟩) (fun c48 => ?_) (fun c48 => ?_)
          · dsimp only [cmpI] at c48
            refine AW.go 1 (pc' := 72) rfl ?_
            refine AW.ret rfl rfl (Nat.le_refl _) (Nat.le_refl _) ?_
            first
              | (exfalso; omega)
              | (refine ⟨congrArg some ?_, rfl⟩
                 rw [hi]
                 by_cases e : k = 12
                 · rw [show (12 - k).toNat = 0 by omega]
                   unfold rft
                   rw [if_pos (by omega)]
                   exact e
                 · have hx := rft_s (sga sg pm) pm w k u (by omega)
                   rw [hsk] at hx
                   rw [hx, if_neg (by omega)]
                   first | (rw [if_pos (Or.inl (by omega))]; done) | (rw [if_pos (Or.inr ((bI_1 _).mp (Decidable.not_not.mp c68)))]; done))
          · dsimp only [cmpI] at c48
            refine AW.go 1 (pc' := 53) rfl ?_
            refine AW.br (tgt := 73) (pn := 56) rfl (by decide) rfl (by first | exact bI_rng _ | exact ⟨by omega, by omega⟩) (fun c53 => ?_) (fun c53 => ?_)
            · dsimp only [cmpI] at c53
              refine AW.go 2 (pc' := 76) rfl ?_
              refine AW.br (tgt := 83) (pn := 79) rfl (by decide) rfl (by first | exact bI_rng _ | exact ⟨by omega, by omega⟩) (fun c76 => ?_) (fun c76 => ?_)
              · dsimp only [cmpI] at c76
                refine AW.go 2 (pc' := 86) rfl ?_
                refine AW.shl1 (pn := 87) rfl rfl (by omega) (by omega) ?_
                first | refine AW.orN (pn := 88) rfl rfl ?_ | refine AW.orN (y := 0) (pn := 88) rfl rfl ?_
                refine AW.go 3 (pc' := 4) rfl ?_
                first
                  | (exfalso; omega)
                  | (have hx := rft_s (sga sg pm) pm w k u (by omega)
                     rw [hsk] at hx
                     first | (refine AW.lw ?_ (ih (k + 1) (u ||| 0) (by omega) (by omega) (by omega) ?_ ?_ (by omega)); exact (And.intro rfl (And.intro rfl (And.intro rfl (And.intro rfl trivial)))); (first | exact Nat.or_lt_two_pow (n := 12) hu (by decide) | exact Nat.or_lt_two_pow (n := 12) hu (pow12 (by omega) (by omega))); (rw [hi, hx]; (first | (rw [if_pos (by omega), Nat.or_zero]; done) | (rw [if_neg (by omega), if_neg (by rintro (q | q); omega; exact c68 ((bI_1 _).mpr q))]; done)))) | (refine AW.lw ?_ (ih (k + 1) (u ||| 2 ^ (tof (sg k.toNat)).toNat) (by omega) (by omega) (by omega) ?_ ?_ (by omega)); exact (And.intro rfl (And.intro rfl (And.intro rfl (And.intro rfl trivial)))); (first | exact Nat.or_lt_two_pow (n := 12) hu (by decide) | exact Nat.or_lt_two_pow (n := 12) hu (pow12 (by omega) (by omega))); (rw [hi, hx]; (first | (rw [if_pos (by omega), Nat.or_zero]; done) | (rw [if_neg (by omega), if_neg (by rintro (q | q); omega; exact c68 ((bI_1 _).mpr q))]; done)))))
              · dsimp only [cmpI] at c76
                refine AW.go 2 (pc' := 87) rfl ?_
                first | refine AW.orN (pn := 88) rfl rfl ?_ | refine AW.orN (y := 0) (pn := 88) rfl rfl ?_
                refine AW.go 3 (pc' := 4) rfl ?_
                first
                  | (exfalso; omega)
                  | (have hx := rft_s (sga sg pm) pm w k u (by omega)
                     rw [hsk] at hx
                     first | (refine AW.lw ?_ (ih (k + 1) (u ||| 0) (by omega) (by omega) (by omega) ?_ ?_ (by omega)); exact (And.intro rfl (And.intro rfl (And.intro rfl (And.intro rfl trivial)))); (first | exact Nat.or_lt_two_pow (n := 12) hu (by decide) | exact Nat.or_lt_two_pow (n := 12) hu (pow12 (by omega) (by omega))); (rw [hi, hx]; (first | (rw [if_pos (by omega), Nat.or_zero]; done) | (rw [if_neg (by omega), if_neg (by rintro (q | q); omega; exact c68 ((bI_1 _).mpr q))]; done)))) | (refine AW.lw ?_ (ih (k + 1) (u ||| 2 ^ (tof (sg k.toNat)).toNat) (by omega) (by omega) (by omega) ?_ ?_ (by omega)); exact (And.intro rfl (And.intro rfl (And.intro rfl (And.intro rfl trivial)))); (first | exact Nat.or_lt_two_pow (n := 12) hu (by decide) | exact Nat.or_lt_two_pow (n := 12) hu (pow12 (by omega) (by omega))); (rw [hi, hx]; (first | (rw [if_pos (by omega), Nat.or_zero]; done) | (rw [if_neg (by omega), if_neg (by rintro (q | q); omega; exact c68 ((bI_1 _).mpr q))]; done)))))
            · dsimp only [cmpI] at c53
              refine AW.go 1 (pc' := 58) rfl ?_
              refine AW.br (tgt := 71) (pn := 61) rfl (by decide) rfl (by first | exact bI_rng _ | exact ⟨by omega, by omega⟩) (fun c58 => ?_) (fun c58 => ?_)
              · dsimp only [cmpI] at c58
                refine AW.go 1 (pc' := 72) rfl ?_
                refine AW.ret rfl rfl (Nat.le_refl _) (Nat.le_refl _) ?_
                first
                  | (exfalso; omega)
                  | (refine ⟨congrArg some ?_, rfl⟩
                     rw [hi]
                     by_cases e : k = 12
                     · rw [show (12 - k).toNat = 0 by omega]
                       unfold rft
                       rw [if_pos (by omega)]
                       exact e
                     · have hx := rft_s (sga sg pm) pm w k u (by omega)
                       rw [hsk] at hx
                       rw [hx, if_neg (by omega)]
                       first | (rw [if_pos (Or.inl (by omega))]; done) | (rw [if_pos (Or.inr ((bI_1 _).mp (Decidable.not_not.mp c68)))]; done))
              · dsimp only [cmpI] at c58
                refine AW.go 2 (pc' := 64) rfl ?_
                have g3 := @shr_nn u (tof (sg k.toNat))
                refine AW.ishr (pn := 65) rfl rfl (by first | exact bI_rng _ | exact ⟨by omega, by omega⟩) (by omega) (by omega) ?_
                refine AW.go 1 (pc' := 66) rfl ?_
                refine AW.iand (pn := 67) rfl rfl (by omega) (by omega) ?_
                rw [shr_bit (by omega)]
                have hbb : (if u.testBit (tof (sg k.toNat)).toNat = true then (1 : Int) else 0) = bI (u.testBit (tof (sg k.toNat)).toNat = true) := rfl
                rw [hbb]
                refine AW.go 1 (pc' := 68) rfl ?_
                refine AW.bi (tgt := 73) (pn := 71) rfl (by decide) rfl (by first | exact bI_rng _ | exact ⟨by omega, by omega⟩) (by first | exact bI_rng _ | exact ⟨by omega, by omega⟩) (fun c68 => ?_) (fun c68 => ?_)
                · dsimp only [cmpI] at c68
                  refine AW.go 2 (pc' := 76) rfl ?_
                  refine AW.br (tgt := 83) (pn := 79) rfl (by decide) rfl (by first | exact bI_rng _ | exact ⟨by omega, by omega⟩) (fun c76 => ?_) (fun c76 => ?_)
                  · dsimp only [cmpI] at c76
                    refine AW.go 2 (pc' := 86) rfl ?_
                    refine AW.shl1 (pn := 87) rfl rfl (by omega) (by omega) ?_
                    first | refine AW.orN (pn := 88) rfl rfl ?_ | refine AW.orN (y := 0) (pn := 88) rfl rfl ?_
                    refine AW.go 3 (pc' := 4) rfl ?_
                    first
                      | (exfalso; omega)
                      | (have hx := rft_s (sga sg pm) pm w k u (by omega)
                         rw [hsk] at hx
                         first | (refine AW.lw ?_ (ih (k + 1) (u ||| 0) (by omega) (by omega) (by omega) ?_ ?_ (by omega)); exact (And.intro rfl (And.intro rfl (And.intro rfl (And.intro rfl trivial)))); (first | exact Nat.or_lt_two_pow (n := 12) hu (by decide) | exact Nat.or_lt_two_pow (n := 12) hu (pow12 (by omega) (by omega))); (rw [hi, hx]; (first | (rw [if_pos (by omega), Nat.or_zero]; done) | (rw [if_neg (by omega), if_neg (by rintro (q | q); omega; exact c68 ((bI_1 _).mpr q))]; done)))) | (refine AW.lw ?_ (ih (k + 1) (u ||| 2 ^ (tof (sg k.toNat)).toNat) (by omega) (by omega) (by omega) ?_ ?_ (by omega)); exact (And.intro rfl (And.intro rfl (And.intro rfl (And.intro rfl trivial)))); (first | exact Nat.or_lt_two_pow (n := 12) hu (by decide) | exact Nat.or_lt_two_pow (n := 12) hu (pow12 (by omega) (by omega))); (rw [hi, hx]; (first | (rw [if_pos (by omega), Nat.or_zero]; done) | (rw [if_neg (by omega), if_neg (by rintro (q | q); omega; exact c68 ((bI_1 _).mpr q))]; done)))))
                  · dsimp only [cmpI] at c76
                    refine AW.go 2 (pc' := 87) rfl ?_
                    first | refine AW.orN (pn := 88) rfl rfl ?_ | refine AW.orN (y := 0) (pn := 88) rfl rfl ?_
                    refine AW.go 3 (pc' := 4) rfl ?_
                    first
                      | (exfalso; omega)
                      | (have hx := rft_s (sga sg pm) pm w k u (by omega)
                         rw [hsk] at hx
                         first | (refine AW.lw ?_ (ih (k + 1) (u ||| 0) (by omega) (by omega) (by omega) ?_ ?_ (by omega)); exact (And.intro rfl (And.intro rfl (And.intro rfl (And.intro rfl trivial)))); (first | exact Nat.or_lt_two_pow (n := 12) hu (by decide) | exact Nat.or_lt_two_pow (n := 12) hu (pow12 (by omega) (by omega))); (rw [hi, hx]; (first | (rw [if_pos (by omega), Nat.or_zero]; done) | (rw [if_neg (by omega), if_neg (by rintro (q | q); omega; exact c68 ((bI_1 _).mpr q))]; done)))) | (refine AW.lw ?_ (ih (k + 1) (u ||| 2 ^ (tof (sg k.toNat)).toNat) (by omega) (by omega) (by omega) ?_ ?_ (by omega)); exact (And.intro rfl (And.intro rfl (And.intro rfl (And.intro rfl trivial)))); (first | exact Nat.or_lt_two_pow (n := 12) hu (by decide) | exact Nat.or_lt_two_pow (n := 12) hu (pow12 (by omega) (by omega))); (rw [hi, hx]; (first | (rw [if_pos (by omega), Nat.or_zero]; done) | (rw [if_neg (by omega), if_neg (by rintro (q | q); omega; exact c68 ((bI_1 _).mpr q))]; done)))))
                · dsimp only [cmpI] at c68
                  refine AW.go 1 (pc' := 72) rfl ?_
                  refine AW.ret rfl rfl (Nat.le_refl _) (Nat.le_refl _) ?_
                  first
                    | (exfalso; omega)
                    | (refine ⟨congrArg some ?_, rfl⟩
                       rw [hi]
                       by_cases e : k = 12
                       · rw [show (12 - k).toNat = 0 by omega]
                         unfold rft
                         rw [if_pos (by omega)]
                         exact e
                       · have hx := rft_s (sga sg pm) pm w k u (by omega)
                         rw [hsk] at hx
                         rw [hx, if_neg (by omega)]
                         first | (rw [if_pos (Or.inl (by omega))]; done) | (rw [if_pos (Or.inr ((bI_1 _).mp (Decidable.not_not.mp c68)))]; done))
        · dsimp only [cmpI] at c35
          refine AW.go 5 (pc' := 48) rfl ?_
          refine AW.bi (tgt := 71) (pn := 51) rfl (by decide) rfl (by first | exact bI_rng _ | exact ⟨by omega, by omega⟩) (by first | exact bI_rng _ | exact ⟨by omega, by omega⟩) (fun c48 => ?_) (fun c48 => ?_)
          · dsimp only [cmpI] at c48
            refine AW.go 1 (pc' := 72) rfl ?_
            refine AW.ret rfl rfl (Nat.le_refl _) (Nat.le_refl _) ?_
            first
              | (exfalso; omega)
              | (refine ⟨congrArg some ?_, rfl⟩
                 rw [hi]
                 by_cases e : k = 12
                 · rw [show (12 - k).toNat = 0 by omega]
                   unfold rft
                   rw [if_pos (by omega)]
                   exact e
                 · have hx := rft_s (sga sg pm) pm w k u (by omega)
                   rw [hsk] at hx
                   rw [hx, if_neg (by omega)]
                   first | (rw [if_pos (Or.inl (by omega))]; done) | (rw [if_pos (Or.inr ((bI_1 _).mp (Decidable.not_not.mp c68)))]; done))
          · dsimp only [cmpI] at c48
            refine AW.go 1 (pc' := 53) rfl ?_
            refine AW.br (tgt := 73) (pn := 56) rfl (by decide) rfl (by first | exact bI_rng _ | exact ⟨by omega, by omega⟩) (fun c53 => ?_) (fun c53 => ?_)
            · dsimp only [cmpI] at c53
              refine AW.go 2 (pc' := 76) rfl ?_
              refine AW.br (tgt := 83) (pn := 79) rfl (by decide) rfl (by first | exact bI_rng _ | exact ⟨by omega, by omega⟩) (fun c76 => ?_) (fun c76 => ?_)
              · dsimp only [cmpI] at c76
                refine AW.go 2 (pc' := 86) rfl ?_
                refine AW.shl1 (pn := 87) rfl rfl (by omega) (by omega) ?_
                first | refine AW.orN (pn := 88) rfl rfl ?_ | refine AW.orN (y := 0) (pn := 88) rfl rfl ?_
                refine AW.go 3 (pc' := 4) rfl ?_
                first
                  | (exfalso; omega)
                  | (have hx := rft_s (sga sg pm) pm w k u (by omega)
                     rw [hsk] at hx
                     first | (refine AW.lw ?_ (ih (k + 1) (u ||| 0) (by omega) (by omega) (by omega) ?_ ?_ (by omega)); exact (And.intro rfl (And.intro rfl (And.intro rfl (And.intro rfl trivial)))); (first | exact Nat.or_lt_two_pow (n := 12) hu (by decide) | exact Nat.or_lt_two_pow (n := 12) hu (pow12 (by omega) (by omega))); (rw [hi, hx]; (first | (rw [if_pos (by omega), Nat.or_zero]; done) | (rw [if_neg (by omega), if_neg (by rintro (q | q); omega; exact c68 ((bI_1 _).mpr q))]; done)))) | (refine AW.lw ?_ (ih (k + 1) (u ||| 2 ^ (tof (sg k.toNat)).toNat) (by omega) (by omega) (by omega) ?_ ?_ (by omega)); exact (And.intro rfl (And.intro rfl (And.intro rfl (And.intro rfl trivial)))); (first | exact Nat.or_lt_two_pow (n := 12) hu (by decide) | exact Nat.or_lt_two_pow (n := 12) hu (pow12 (by omega) (by omega))); (rw [hi, hx]; (first | (rw [if_pos (by omega), Nat.or_zero]; done) | (rw [if_neg (by omega), if_neg (by rintro (q | q); omega; exact c68 ((bI_1 _).mpr q))]; done)))))
              · dsimp only [cmpI] at c76
                refine AW.go 2 (pc' := 87) rfl ?_
                first | refine AW.orN (pn := 88) rfl rfl ?_ | refine AW.orN (y := 0) (pn := 88) rfl rfl ?_
                refine AW.go 3 (pc' := 4) rfl ?_
                first
                  | (exfalso; omega)
                  | (have hx := rft_s (sga sg pm) pm w k u (by omega)
                     rw [hsk] at hx
                     first | (refine AW.lw ?_ (ih (k + 1) (u ||| 0) (by omega) (by omega) (by omega) ?_ ?_ (by omega)); exact (And.intro rfl (And.intro rfl (And.intro rfl (And.intro rfl trivial)))); (first | exact Nat.or_lt_two_pow (n := 12) hu (by decide) | exact Nat.or_lt_two_pow (n := 12) hu (pow12 (by omega) (by omega))); (rw [hi, hx]; (first | (rw [if_pos (by omega), Nat.or_zero]; done) | (rw [if_neg (by omega), if_neg (by rintro (q | q); omega; exact c68 ((bI_1 _).mpr q))]; done)))) | (refine AW.lw ?_ (ih (k + 1) (u ||| 2 ^ (tof (sg k.toNat)).toNat) (by omega) (by omega) (by omega) ?_ ?_ (by omega)); exact (And.intro rfl (And.intro rfl (And.intro rfl (And.intro rfl trivial)))); (first | exact Nat.or_lt_two_pow (n := 12) hu (by decide) | exact Nat.or_lt_two_pow (n := 12) hu (pow12 (by omega) (by omega))); (rw [hi, hx]; (first | (rw [if_pos (by omega), Nat.or_zero]; done) | (rw [if_neg (by omega), if_neg (by rintro (q | q); omega; exact c68 ((bI_1 _).mpr q))]; done)))))
            · dsimp only [cmpI] at c53
              refine AW.go 1 (pc' := 58) rfl ?_
              refine AW.br (tgt := 71) (pn := 61) rfl (by decide) rfl (by first | exact bI_rng _ | exact ⟨by omega, by omega⟩) (fun c58 => ?_) (fun c58 => ?_)
              · dsimp only [cmpI] at c58
                refine AW.go 1 (pc' := 72) rfl ?_
                refine AW.ret rfl rfl (Nat.le_refl _) (Nat.le_refl _) ?_
                first
                  | (exfalso; omega)
                  | (refine ⟨congrArg some ?_, rfl⟩
                     rw [hi]
                     by_cases e : k = 12
                     · rw [show (12 - k).toNat = 0 by omega]
                       unfold rft
                       rw [if_pos (by omega)]
                       exact e
                     · have hx := rft_s (sga sg pm) pm w k u (by omega)
                       rw [hsk] at hx
                       rw [hx, if_neg (by omega)]
                       first | (rw [if_pos (Or.inl (by omega))]; done) | (rw [if_pos (Or.inr ((bI_1 _).mp (Decidable.not_not.mp c68)))]; done))
              · dsimp only [cmpI] at c58
                refine AW.go 2 (pc' := 64) rfl ?_
                have g3 := @shr_nn u (tof (sg k.toNat))
                refine AW.ishr (pn := 65) rfl rfl (by first | exact bI_rng _ | exact ⟨by omega, by omega⟩) (by omega) (by omega) ?_
                refine AW.go 1 (pc' := 66) rfl ?_
                refine AW.iand (pn := 67) rfl rfl (by omega) (by omega) ?_
                rw [shr_bit (by omega)]
                have hbb : (if u.testBit (tof (sg k.toNat)).toNat = true then (1 : Int) else 0) = bI (u.testBit (tof (sg k.toNat)).toNat = true) := rfl
                rw [hbb]
                refine AW.go 1 (pc' := 68) rfl ?_
                refine AW.bi (tgt := 73) (pn := 71) rfl (by decide) rfl (by first | exact bI_rng _ | exact ⟨by omega, by omega⟩) (by first | exact bI_rng _ | exact ⟨by omega, by omega⟩) (fun c68 => ?_) (fun c68 => ?_)
                · dsimp only [cmpI] at c68
                  refine AW.go 2 (pc' := 76) rfl ?_
                  refine AW.br (tgt := 83) (pn := 79) rfl (by decide) rfl (by first | exact bI_rng _ | exact ⟨by omega, by omega⟩) (fun c76 => ?_) (fun c76 => ?_)
                  · dsimp only [cmpI] at c76
                    refine AW.go 2 (pc' := 86) rfl ?_
                    refine AW.shl1 (pn := 87) rfl rfl (by omega) (by omega) ?_
                    first | refine AW.orN (pn := 88) rfl rfl ?_ | refine AW.orN (y := 0) (pn := 88) rfl rfl ?_
                    refine AW.go 3 (pc' := 4) rfl ?_
                    first
                      | (exfalso; omega)
                      | (have hx := rft_s (sga sg pm) pm w k u (by omega)
                         rw [hsk] at hx
                         first | (refine AW.lw ?_ (ih (k + 1) (u ||| 0) (by omega) (by omega) (by omega) ?_ ?_ (by omega)); exact (And.intro rfl (And.intro rfl (And.intro rfl (And.intro rfl trivial)))); (first | exact Nat.or_lt_two_pow (n := 12) hu (by decide) | exact Nat.or_lt_two_pow (n := 12) hu (pow12 (by omega) (by omega))); (rw [hi, hx]; (first | (rw [if_pos (by omega), Nat.or_zero]; done) | (rw [if_neg (by omega), if_neg (by rintro (q | q); omega; exact c68 ((bI_1 _).mpr q))]; done)))) | (refine AW.lw ?_ (ih (k + 1) (u ||| 2 ^ (tof (sg k.toNat)).toNat) (by omega) (by omega) (by omega) ?_ ?_ (by omega)); exact (And.intro rfl (And.intro rfl (And.intro rfl (And.intro rfl trivial)))); (first | exact Nat.or_lt_two_pow (n := 12) hu (by decide) | exact Nat.or_lt_two_pow (n := 12) hu (pow12 (by omega) (by omega))); (rw [hi, hx]; (first | (rw [if_pos (by omega), Nat.or_zero]; done) | (rw [if_neg (by omega), if_neg (by rintro (q | q); omega; exact c68 ((bI_1 _).mpr q))]; done)))))
                  · dsimp only [cmpI] at c76
                    refine AW.go 2 (pc' := 87) rfl ?_
                    first | refine AW.orN (pn := 88) rfl rfl ?_ | refine AW.orN (y := 0) (pn := 88) rfl rfl ?_
                    refine AW.go 3 (pc' := 4) rfl ?_
                    first
                      | (exfalso; omega)
                      | (have hx := rft_s (sga sg pm) pm w k u (by omega)
                         rw [hsk] at hx
                         first | (refine AW.lw ?_ (ih (k + 1) (u ||| 0) (by omega) (by omega) (by omega) ?_ ?_ (by omega)); exact (And.intro rfl (And.intro rfl (And.intro rfl (And.intro rfl trivial)))); (first | exact Nat.or_lt_two_pow (n := 12) hu (by decide) | exact Nat.or_lt_two_pow (n := 12) hu (pow12 (by omega) (by omega))); (rw [hi, hx]; (first | (rw [if_pos (by omega), Nat.or_zero]; done) | (rw [if_neg (by omega), if_neg (by rintro (q | q); omega; exact c68 ((bI_1 _).mpr q))]; done)))) | (refine AW.lw ?_ (ih (k + 1) (u ||| 2 ^ (tof (sg k.toNat)).toNat) (by omega) (by omega) (by omega) ?_ ?_ (by omega)); exact (And.intro rfl (And.intro rfl (And.intro rfl (And.intro rfl trivial)))); (first | exact Nat.or_lt_two_pow (n := 12) hu (by decide) | exact Nat.or_lt_two_pow (n := 12) hu (pow12 (by omega) (by omega))); (rw [hi, hx]; (first | (rw [if_pos (by omega), Nat.or_zero]; done) | (rw [if_neg (by omega), if_neg (by rintro (q | q); omega; exact c68 ((bI_1 _).mpr q))]; done)))))
                · dsimp only [cmpI] at c68
                  refine AW.go 1 (pc' := 72) rfl ?_
                  refine AW.ret rfl rfl (Nat.le_refl _) (Nat.le_refl _) ?_
                  first
                    | (exfalso; omega)
                    | (refine ⟨congrArg some ?_, rfl⟩
                       rw [hi]
                       by_cases e : k = 12
                       · rw [show (12 - k).toNat = 0 by omega]
                         unfold rft
                         rw [if_pos (by omega)]
                         exact e
                       · have hx := rft_s (sga sg pm) pm w k u (by omega)
                         rw [hsk] at hx
                         rw [hx, if_neg (by omega)]
                         first | (rw [if_pos (Or.inl (by omega))]; done) | (rw [if_pos (Or.inr ((bI_1 _).mp (Decidable.not_not.mp c68)))]; done))
set_option maxHeartbeats 2000000 in
theorem c_X4_faultOfTones (d : Nat) (hd : 2 ≤ d) (h : List AC) (pm rf gm ka wr9 : Int) (hO : h[29]? = some (ao 4 (mo pm rf gm ka wr9))) (rc : 0 ≤ pm ∧ pm ≤ 20) (sg : Nat → Int) (hP : h[32]? = some (ai 0 20 sg)) (hs : sn sg) (w : Int) (hw : w = 0 ∨ w = 1) : MF zX4_faultOfTones d [vr 29, vi w] h (rft (sga sg pm) pm w 12 0 0) h := by
  refine M0.of okX4_faultOfTones (Nat.le_of_ble_eq_true rfl) ?_
  refine AW.go 4 (pc' := 4) rfl ?_
  refine AW.lw ?_ (l_X4_faultOfTones d hd h pm rf gm ka wr9 hO rc sg hP hs w hw _ 0 0 (by omega) (by omega) (by omega) (by omega) rfl (Nat.lt_succ_self _))
  exact (And.intro rfl (And.intro rfl (And.intro rfl (And.intro rfl trivial))))
set_option maxHeartbeats 2000000 in
theorem c_X4_isSign (d : Nat) (hd : 0 ≤ d) (h : List AC) (pm rf gm ka wr9 : Int) (hO : h[29]? = some (ao 4 (mo pm rf gm ka wr9))) (rc : 0 ≤ pm ∧ pm ≤ 20) (sg : Nat → Int) (hP : h[32]? = some (ai 0 20 sg)) (hs : sn sg) (i c : Int) (ri : 0 ≤ i ∧ i < 20) (rc2 : 0 ≤ c ∧ c < 1000) : MF zX4_isSign d [vr 29, vi i, vi c] h (bI (sga sg pm i = c)) h := by
  refine M0.of okX4_isSign (Nat.le_of_ble_eq_true rfl) ?_
  refine AW.go 1 (pc' := 1) rfl ?_
  have v0 := sga_v sg pm i
  have g1 := hs i.toNat (by omega)
  refine AW.go 1 (pc' := 2) rfl ?_
  refine AW.getf (pn := 5) rfl rfl flX4_52 (by first | assumption | exact set_self (by first | assumption | exact set_self (by first | assumption | exact set_self (by assumption) | exact set_ne (by first | assumption | decide | omega) (by assumption)) | exact set_ne (by first | assumption | decide | omega) (by first | assumption | exact set_self (by assumption) | exact set_ne (by first | assumption | decide | omega) (by assumption))) | exact set_ne (by first | assumption | decide | omega) (by first | assumption | exact set_self (by first | assumption | exact set_self (by assumption) | exact set_ne (by first | assumption | decide | omega) (by assumption)) | exact set_ne (by first | assumption | decide | omega) (by first | assumption | exact set_self (by assumption) | exact set_ne (by first | assumption | decide | omega) (by assumption)))) rfl ?_
  refine AW.bi (tgt := 22) (pn := 8) rfl (by decide) rfl (by first | exact bI_rng _ | exact ⟨by omega, by omega⟩) (by first | exact bI_rng _ | exact ⟨by omega, by omega⟩) (fun c5 => ?_) (fun c5 => ?_)
  · dsimp only [cmpI] at c5
    refine AW.go 1 (pc' := 23) rfl ?_
    refine AW.retz rfl rfl (by first | exact bI_01 _ | decide) (Nat.le_refl _) (Nat.le_refl _) ?_
    refine ⟨congrArg some ?_, rfl⟩
    first | rfl | (symm; first | exact bI_t (by omega) | exact bI_f (by omega)) | omega
  · dsimp only [cmpI] at c5
    refine AW.go 1 (pc' := 9) rfl ?_
    refine AW.getf (pn := 12) rfl rfl flX4_16 (by first | assumption | exact set_self (by first | assumption | exact set_self (by first | assumption | exact set_self (by assumption) | exact set_ne (by first | assumption | decide | omega) (by assumption)) | exact set_ne (by first | assumption | decide | omega) (by first | assumption | exact set_self (by assumption) | exact set_ne (by first | assumption | decide | omega) (by assumption))) | exact set_ne (by first | assumption | decide | omega) (by first | assumption | exact set_self (by first | assumption | exact set_self (by assumption) | exact set_ne (by first | assumption | decide | omega) (by assumption)) | exact set_ne (by first | assumption | decide | omega) (by first | assumption | exact set_self (by assumption) | exact set_ne (by first | assumption | decide | omega) (by assumption)))) rfl ?_
    refine AW.go 1 (pc' := 13) rfl ?_
    refine AW.iald (pn := 14) rfl rfl (by first | assumption | exact set_self (by first | assumption | exact set_self (by first | assumption | exact set_self (by assumption) | exact set_ne (by first | assumption | decide | omega) (by assumption)) | exact set_ne (by first | assumption | decide | omega) (by first | assumption | exact set_self (by assumption) | exact set_ne (by first | assumption | decide | omega) (by assumption))) | exact set_ne (by first | assumption | decide | omega) (by first | assumption | exact set_self (by first | assumption | exact set_self (by assumption) | exact set_ne (by first | assumption | decide | omega) (by assumption)) | exact set_ne (by first | assumption | decide | omega) (by first | assumption | exact set_self (by assumption) | exact set_ne (by first | assumption | decide | omega) (by assumption)))) (by decide) (by omega) (by omega) ?_
    refine AW.go 1 (pc' := 15) rfl ?_
    refine AW.bi (tgt := 22) (pn := 18) rfl (by decide) rfl (by first | exact bI_rng _ | exact ⟨by omega, by omega⟩) (by first | exact bI_rng _ | exact ⟨by omega, by omega⟩) (fun c15 => ?_) (fun c15 => ?_)
    · dsimp only [cmpI] at c15
      refine AW.go 1 (pc' := 23) rfl ?_
      refine AW.retz rfl rfl (by first | exact bI_01 _ | decide) (Nat.le_refl _) (Nat.le_refl _) ?_
      refine ⟨congrArg some ?_, rfl⟩
      first | rfl | (symm; first | exact bI_t (by omega) | exact bI_f (by omega)) | omega
    · dsimp only [cmpI] at c15
      refine AW.go 2 (pc' := 23) rfl ?_
      refine AW.retz rfl rfl (by first | exact bI_01 _ | decide) (Nat.le_refl _) (Nat.le_refl _) ?_
      refine ⟨congrArg some ?_, rfl⟩
      first | rfl | (symm; first | exact bI_t (by omega) | exact bI_f (by omega)) | omega
set_option maxHeartbeats 2000000 in
theorem c_X4_faultOfForm (d : Nat) (hd : 2 ≤ d) (h : List AC) (pm rf gm ka wr9 : Int) (hO : h[29]? = some (ao 4 (mo pm rf gm ka wr9))) (rc : 0 ≤ pm ∧ pm ≤ 20) (sg : Nat → Int) (hP : h[32]? = some (ai 0 20 sg)) (hs : sn sg) : M0 zX4_faultOfForm d [vr 29] h (fun v u => v = some (fft (sga sg pm) pm) ∧ ∃ rf2 : Int, u = h.set 29 (ao 4 (mo pm rf2 gm ka wr9)) ∧ (fft (sga sg pm) pm = -6 → rf2 = fnm (sga sg pm) pm)) := by
  refine M0.of okX4_faultOfForm (Nat.le_of_ble_eq_true rfl) ?_
  refine AW.go 3 (pc' := 4) rfl ?_
  have v0 := sga_v sg pm 0
  have v1 := sga_v sg pm 1
  have v2 := sga_v sg pm 2
  have v3 := sga_v sg pm 3
  have w2 : sga sg pm (1 + 1) = sga sg pm 2 := rfl
  have w3 : sga sg pm (2 + 1) = sga sg pm 3 := rfl
  have x2 : sg ((1 : Int) + 1).toNat = sg (2 : Int).toNat := rfl
  have x3 : sg ((2 : Int) + 1).toNat = sg (3 : Int).toNat := rfl
  have hK := ks_all (sga sg pm)
  have g1 := hs 1 (by omega)
  have g2 := hs 2 (by omega)
  have g3 := hs 3 (by omega)
  have y1 : sg (1 : Int).toNat = sg 1 := rfl
  have y2 : sg (2 : Int).toNat = sg 2 := rfl
  have y3 : sg (3 : Int).toNat = sg 3 := rfl
  refine AW.callVF (pn := 7) rfl rfl mlX4_64 (by first | assumption | exact set_self (by first | assumption | exact set_self (by first | assumption | exact set_self (by assumption) | exact set_ne (by first | assumption | decide | omega) (by assumption)) | exact set_ne (by first | assumption | decide | omega) (by first | assumption | exact set_self (by assumption) | exact set_ne (by first | assumption | decide | omega) (by assumption))) | exact set_ne (by first | assumption | decide | omega) (by first | assumption | exact set_self (by first | assumption | exact set_self (by assumption) | exact set_ne (by first | assumption | decide | omega) (by assumption)) | exact set_ne (by first | assumption | decide | omega) (by first | assumption | exact set_self (by assumption) | exact set_ne (by first | assumption | decide | omega) (by assumption)))) (c_X4_isSign (d - 1) (by omega) _ _ _ _ _ _ (by first | assumption | exact set_self (by first | assumption | exact set_self (by first | assumption | exact set_self (by assumption) | exact set_ne (by first | assumption | decide | omega) (by assumption)) | exact set_ne (by first | assumption | decide | omega) (by first | assumption | exact set_self (by assumption) | exact set_ne (by first | assumption | decide | omega) (by assumption))) | exact set_ne (by first | assumption | decide | omega) (by first | assumption | exact set_self (by first | assumption | exact set_self (by assumption) | exact set_ne (by first | assumption | decide | omega) (by assumption)) | exact set_ne (by first | assumption | decide | omega) (by first | assumption | exact set_self (by assumption) | exact set_ne (by first | assumption | decide | omega) (by assumption)))) (by omega) _ (by first | assumption | exact set_self (by first | assumption | exact set_self (by first | assumption | exact set_self (by assumption) | exact set_ne (by first | assumption | decide | omega) (by assumption)) | exact set_ne (by first | assumption | decide | omega) (by first | assumption | exact set_self (by assumption) | exact set_ne (by first | assumption | decide | omega) (by assumption))) | exact set_ne (by first | assumption | decide | omega) (by first | assumption | exact set_self (by first | assumption | exact set_self (by assumption) | exact set_ne (by first | assumption | decide | omega) (by assumption)) | exact set_ne (by first | assumption | decide | omega) (by first | assumption | exact set_self (by assumption) | exact set_ne (by first | assumption | decide | omega) (by assumption)))) (by assumption) _ _ (by omega) (by omega)) rfl rfl (Nat.le_of_ble_eq_true rfl) ⟨by show d - 1 + 1 ≤ d; omega, by show 40 * (d - 1 + 1) ≤ 40 * d; omega⟩ ⟨Nat.zero_le _, Nat.zero_le _⟩ ?_
  refine AW.bz (tgt := 14) (pn := 10) rfl (by decide) rfl (fun c7 => ?_) (fun c7 => ?_)
  · refine AW.go 3 (pc' := 18) rfl ?_
    refine AW.callVF (pn := 21) rfl rfl mlX4_64 (by first | assumption | exact set_self (by first | assumption | exact set_self (by first | assumption | exact set_self (by assumption) | exact set_ne (by first | assumption | decide | omega) (by assumption)) | exact set_ne (by first | assumption | decide | omega) (by first | assumption | exact set_self (by assumption) | exact set_ne (by first | assumption | decide | omega) (by assumption))) | exact set_ne (by first | assumption | decide | omega) (by first | assumption | exact set_self (by first | assumption | exact set_self (by assumption) | exact set_ne (by first | assumption | decide | omega) (by assumption)) | exact set_ne (by first | assumption | decide | omega) (by first | assumption | exact set_self (by assumption) | exact set_ne (by first | assumption | decide | omega) (by assumption)))) (c_X4_isSign (d - 1) (by omega) _ _ _ _ _ _ (by first | assumption | exact set_self (by first | assumption | exact set_self (by first | assumption | exact set_self (by assumption) | exact set_ne (by first | assumption | decide | omega) (by assumption)) | exact set_ne (by first | assumption | decide | omega) (by first | assumption | exact set_self (by assumption) | exact set_ne (by first | assumption | decide | omega) (by assumption))) | exact set_ne (by first | assumption | decide | omega) (by first | assumption | exact set_self (by first | assumption | exact set_self (by assumption) | exact set_ne (by first | assumption | decide | omega) (by assumption)) | exact set_ne (by first | assumption | decide | omega) (by first | assumption | exact set_self (by assumption) | exact set_ne (by first | assumption | decide | omega) (by assumption)))) (by omega) _ (by first | assumption | exact set_self (by first | assumption | exact set_self (by first | assumption | exact set_self (by assumption) | exact set_ne (by first | assumption | decide | omega) (by assumption)) | exact set_ne (by first | assumption | decide | omega) (by first | assumption | exact set_self (by assumption) | exact set_ne (by first | assumption | decide | omega) (by assumption))) | exact set_ne (by first | assumption | decide | omega) (by first | assumption | exact set_self (by first | assumption | exact set_self (by assumption) | exact set_ne (by first | assumption | decide | omega) (by assumption)) | exact set_ne (by first | assumption | decide | omega) (by first | assumption | exact set_self (by assumption) | exact set_ne (by first | assumption | decide | omega) (by assumption)))) (by assumption) _ _ (by omega) (by omega)) rfl rfl (Nat.le_of_ble_eq_true rfl) ⟨by show d - 1 + 1 ≤ d; omega, by show 40 * (d - 1 + 1) ≤ 40 * d; omega⟩ ⟨Nat.zero_le _, Nat.zero_le _⟩ ?_
    refine AW.bz (tgt := 28) (pn := 24) rfl (by decide) rfl (fun c21 => ?_) (fun c21 => ?_)
    · refine AW.go 3 (pc' := 32) rfl ?_
      refine AW.callVF (pn := 35) rfl rfl mlX4_64 (by first | assumption | exact set_self (by first | assumption | exact set_self (by first | assumption | exact set_self (by assumption) | exact set_ne (by first | assumption | decide | omega) (by assumption)) | exact set_ne (by first | assumption | decide | omega) (by first | assumption | exact set_self (by assumption) | exact set_ne (by first | assumption | decide | omega) (by assumption))) | exact set_ne (by first | assumption | decide | omega) (by first | assumption | exact set_self (by first | assumption | exact set_self (by assumption) | exact set_ne (by first | assumption | decide | omega) (by assumption)) | exact set_ne (by first | assumption | decide | omega) (by first | assumption | exact set_self (by assumption) | exact set_ne (by first | assumption | decide | omega) (by assumption)))) (c_X4_isSign (d - 1) (by omega) _ _ _ _ _ _ (by first | assumption | exact set_self (by first | assumption | exact set_self (by first | assumption | exact set_self (by assumption) | exact set_ne (by first | assumption | decide | omega) (by assumption)) | exact set_ne (by first | assumption | decide | omega) (by first | assumption | exact set_self (by assumption) | exact set_ne (by first | assumption | decide | omega) (by assumption))) | exact set_ne (by first | assumption | decide | omega) (by first | assumption | exact set_self (by first | assumption | exact set_self (by assumption) | exact set_ne (by first | assumption | decide | omega) (by assumption)) | exact set_ne (by first | assumption | decide | omega) (by first | assumption | exact set_self (by assumption) | exact set_ne (by first | assumption | decide | omega) (by assumption)))) (by omega) _ (by first | assumption | exact set_self (by first | assumption | exact set_self (by first | assumption | exact set_self (by assumption) | exact set_ne (by first | assumption | decide | omega) (by assumption)) | exact set_ne (by first | assumption | decide | omega) (by first | assumption | exact set_self (by assumption) | exact set_ne (by first | assumption | decide | omega) (by assumption))) | exact set_ne (by first | assumption | decide | omega) (by first | assumption | exact set_self (by first | assumption | exact set_self (by assumption) | exact set_ne (by first | assumption | decide | omega) (by assumption)) | exact set_ne (by first | assumption | decide | omega) (by first | assumption | exact set_self (by assumption) | exact set_ne (by first | assumption | decide | omega) (by assumption)))) (by assumption) _ _ (by omega) (by omega)) rfl rfl (Nat.le_of_ble_eq_true rfl) ⟨by show d - 1 + 1 ≤ d; omega, by show 40 * (d - 1 + 1) ≤ 40 * d; omega⟩ ⟨Nat.zero_le _, Nat.zero_le _⟩ ?_
      refine AW.bz (tgt := 42) (pn := 38) rfl (by decide) rfl (fun c35 => ?_) (fun c35 => ?_)
      · refine AW.go 3 (pc' := 46) rfl ?_
        refine AW.br (tgt := 51) (pn := 49) rfl (by decide) rfl (by first | exact bI_rng _ | exact ⟨by omega, by omega⟩) (fun c46 => ?_) (fun c46 => ?_)
        · dsimp only [cmpI] at c46
          refine AW.go 4 (pc' := 55) rfl ?_
          refine AW.bi (tgt := 72) (pn := 58) rfl (by decide) rfl (by first | exact bI_rng _ | exact ⟨by omega, by omega⟩) (by first | exact bI_rng _ | exact ⟨by omega, by omega⟩) (fun c55 => ?_) (fun c55 => ?_)
          · dsimp only [cmpI] at c55
            refine AW.go 2 (pc' := 74) rfl ?_
            refine AW.getf (pn := 77) rfl rfl flX4_52 (by first | assumption | exact set_self (by first | assumption | exact set_self (by first | assumption | exact set_self (by assumption) | exact set_ne (by first | assumption | decide | omega) (by assumption)) | exact set_ne (by first | assumption | decide | omega) (by first | assumption | exact set_self (by assumption) | exact set_ne (by first | assumption | decide | omega) (by assumption))) | exact set_ne (by first | assumption | decide | omega) (by first | assumption | exact set_self (by first | assumption | exact set_self (by assumption) | exact set_ne (by first | assumption | decide | omega) (by assumption)) | exact set_ne (by first | assumption | decide | omega) (by first | assumption | exact set_self (by assumption) | exact set_ne (by first | assumption | decide | omega) (by assumption)))) rfl ?_
            refine AW.bi (tgt := 99) (pn := 80) rfl (by decide) rfl (by first | exact bI_rng _ | exact ⟨by omega, by omega⟩) (by first | exact bI_rng _ | exact ⟨by omega, by omega⟩) (fun c77 => ?_) (fun c77 => ?_)
            · dsimp only [cmpI] at c77
              refine AW.go 1 (pc' := 100) rfl ?_
              refine AW.ret rfl rfl (Nat.le_refl _) (Nat.le_refl _) ?_
              first
                | (exfalso; omega)
                | (have hk : ksg (sga sg pm) = 1 := by omega
                   have hF := ff_at (sga sg pm) pm 1 hk
                   have hN1 := fn_at1 (sga sg pm) pm 1 hk
                   have hN2 := fn_at2 (sga sg pm) pm 1 hk
                   refine ⟨congrArg some ?_, rf, (set_same hO).symm, fun q => ?_⟩ <;> omega)
                | (have hk : ksg (sga sg pm) = 2 := by omega
                   have hF := ff_at (sga sg pm) pm 2 hk
                   have hN1 := fn_at1 (sga sg pm) pm 2 hk
                   have hN2 := fn_at2 (sga sg pm) pm 2 hk
                   refine ⟨congrArg some ?_, rf, (set_same hO).symm, fun q => ?_⟩ <;> omega)
            · dsimp only [cmpI] at c77
              refine AW.go 1 (pc' := 81) rfl ?_
              refine AW.getf (pn := 84) rfl rfl flX4_16 (by first | assumption | exact set_self (by first | assumption | exact set_self (by first | assumption | exact set_self (by assumption) | exact set_ne (by first | assumption | decide | omega) (by assumption)) | exact set_ne (by first | assumption | decide | omega) (by first | assumption | exact set_self (by assumption) | exact set_ne (by first | assumption | decide | omega) (by assumption))) | exact set_ne (by first | assumption | decide | omega) (by first | assumption | exact set_self (by first | assumption | exact set_self (by assumption) | exact set_ne (by first | assumption | decide | omega) (by assumption)) | exact set_ne (by first | assumption | decide | omega) (by first | assumption | exact set_self (by assumption) | exact set_ne (by first | assumption | decide | omega) (by assumption)))) rfl ?_
              refine AW.go 1 (pc' := 85) rfl ?_
              refine AW.iald (pn := 86) rfl rfl (by first | assumption | exact set_self (by first | assumption | exact set_self (by first | assumption | exact set_self (by assumption) | exact set_ne (by first | assumption | decide | omega) (by assumption)) | exact set_ne (by first | assumption | decide | omega) (by first | assumption | exact set_self (by assumption) | exact set_ne (by first | assumption | decide | omega) (by assumption))) | exact set_ne (by first | assumption | decide | omega) (by first | assumption | exact set_self (by first | assumption | exact set_self (by assumption) | exact set_ne (by first | assumption | decide | omega) (by assumption)) | exact set_ne (by first | assumption | decide | omega) (by first | assumption | exact set_self (by assumption) | exact set_ne (by first | assumption | decide | omega) (by assumption)))) (by decide) (by omega) (by omega) ?_
              refine AW.i2l (pn := 87) rfl rfl (by first | exact bI_rng _ | exact ⟨by omega, by omega⟩) ?_
              refine AW.ldc2 (pn := 90) rfl rfl clX4_56 ?_
              refine AW.ldc2 (pn := 93) rfl rfl clX4_58 ?_
              refine AW.callSF (pn := 96) rfl rfl mlX4_40 (c_X4_in (d - 1) (by omega) _ _ _ _ (by omega) (by omega) (by omega)) rfl rfl (Nat.le_of_ble_eq_true rfl) ⟨by show d - 1 + 1 ≤ d; omega, by show 40 * (d - 1 + 1) ≤ 40 * d; omega⟩ ⟨Nat.zero_le _, Nat.zero_le _⟩ ?_
              refine AW.bnz (tgt := 101) (pn := 99) rfl (by decide) rfl (fun c96 => ?_) (fun c96 => ?_)
              · refine AW.go 1 (pc' := 102) rfl ?_
                refine AW.getf (pn := 105) rfl rfl flX4_16 (by first | assumption | exact set_self (by first | assumption | exact set_self (by first | assumption | exact set_self (by assumption) | exact set_ne (by first | assumption | decide | omega) (by assumption)) | exact set_ne (by first | assumption | decide | omega) (by first | assumption | exact set_self (by assumption) | exact set_ne (by first | assumption | decide | omega) (by assumption))) | exact set_ne (by first | assumption | decide | omega) (by first | assumption | exact set_self (by first | assumption | exact set_self (by assumption) | exact set_ne (by first | assumption | decide | omega) (by assumption)) | exact set_ne (by first | assumption | decide | omega) (by first | assumption | exact set_self (by assumption) | exact set_ne (by first | assumption | decide | omega) (by assumption)))) rfl ?_
                refine AW.go 1 (pc' := 106) rfl ?_
                refine AW.iald (pn := 107) rfl rfl (by first | assumption | exact set_self (by first | assumption | exact set_self (by first | assumption | exact set_self (by assumption) | exact set_ne (by first | assumption | decide | omega) (by assumption)) | exact set_ne (by first | assumption | decide | omega) (by first | assumption | exact set_self (by assumption) | exact set_ne (by first | assumption | decide | omega) (by assumption))) | exact set_ne (by first | assumption | decide | omega) (by first | assumption | exact set_self (by first | assumption | exact set_self (by assumption) | exact set_ne (by first | assumption | decide | omega) (by assumption)) | exact set_ne (by first | assumption | decide | omega) (by first | assumption | exact set_self (by assumption) | exact set_ne (by first | assumption | decide | omega) (by assumption)))) (by decide) (by omega) (by omega) ?_
                refine AW.go 6 (pc' := 116) rfl ?_
                refine AW.bi (tgt := 155) (pn := 119) rfl (by decide) rfl (by first | exact bI_rng _ | exact ⟨by omega, by omega⟩) (by first | exact bI_rng _ | exact ⟨by omega, by omega⟩) (fun c116 => ?_) (fun c116 => ?_)
                · dsimp only [cmpI] at c116
                  refine AW.go 6 (pc' := 162) rfl ?_
                  refine AW.putf (pn := 165) rfl rfl flX4_68 (by first | assumption | exact set_self (by first | assumption | exact set_self (by first | assumption | exact set_self (by assumption) | exact set_ne (by first | assumption | decide | omega) (by assumption)) | exact set_ne (by first | assumption | decide | omega) (by first | assumption | exact set_self (by assumption) | exact set_ne (by first | assumption | decide | omega) (by assumption))) | exact set_ne (by first | assumption | decide | omega) (by first | assumption | exact set_self (by first | assumption | exact set_self (by assumption) | exact set_ne (by first | assumption | decide | omega) (by assumption)) | exact set_ne (by first | assumption | decide | omega) (by first | assumption | exact set_self (by assumption) | exact set_ne (by first | assumption | decide | omega) (by assumption)))) rfl (by first | trivial | exact bI_01 _ | exact Or.inl rfl | exact Or.inr rfl) ?_
                  refine AW.go 2 (pc' := 167) rfl ?_
                  refine AW.getf (pn := 170) rfl rfl flX4_52 (by first | assumption | exact set_self (by first | assumption | exact set_self (by first | assumption | exact set_self (by assumption) | exact set_ne (by first | assumption | decide | omega) (by assumption)) | exact set_ne (by first | assumption | decide | omega) (by first | assumption | exact set_self (by assumption) | exact set_ne (by first | assumption | decide | omega) (by assumption))) | exact set_ne (by first | assumption | decide | omega) (by first | assumption | exact set_self (by first | assumption | exact set_self (by assumption) | exact set_ne (by first | assumption | decide | omega) (by assumption)) | exact set_ne (by first | assumption | decide | omega) (by first | assumption | exact set_self (by assumption) | exact set_ne (by first | assumption | decide | omega) (by assumption)))) rfl ?_
                  refine AW.bi (tgt := 177) (pn := 173) rfl (by decide) rfl (by first | exact bI_rng _ | exact ⟨by omega, by omega⟩) (by first | exact bI_rng _ | exact ⟨by omega, by omega⟩) (fun c170 => ?_) (fun c170 => ?_)
                  · dsimp only [cmpI] at c170
                    refine AW.go 1 (pc' := 179) rfl ?_
                    refine AW.ret rfl rfl (Nat.le_refl _) (Nat.le_refl _) ?_
                    first
                      | (exfalso; omega)
                      | (have hk : ksg (sga sg pm) = 1 := by omega
                         have hF := ff_at (sga sg pm) pm 1 hk
                         have hN1 := fn_at1 (sga sg pm) pm 1 hk
                         have hN2 := fn_at2 (sga sg pm) pm 1 hk
                         refine ⟨congrArg some ?_, _, rfl, fun q => ?_⟩ <;> omega)
                      | (have hk : ksg (sga sg pm) = 2 := by omega
                         have hF := ff_at (sga sg pm) pm 2 hk
                         have hN1 := fn_at1 (sga sg pm) pm 2 hk
                         have hN2 := fn_at2 (sga sg pm) pm 2 hk
                         refine ⟨congrArg some ?_, _, rfl, fun q => ?_⟩ <;> omega)
                  · dsimp only [cmpI] at c170
                    refine AW.go 2 (pc' := 179) rfl ?_
                    refine AW.ret rfl rfl (Nat.le_refl _) (Nat.le_refl _) ?_
                    first
                      | (exfalso; omega)
                      | (have hk : ksg (sga sg pm) = 1 := by omega
                         have hF := ff_at (sga sg pm) pm 1 hk
                         have hN1 := fn_at1 (sga sg pm) pm 1 hk
                         have hN2 := fn_at2 (sga sg pm) pm 1 hk
                         refine ⟨congrArg some ?_, _, rfl, fun q => ?_⟩ <;> omega)
                      | (have hk : ksg (sga sg pm) = 2 := by omega
                         have hF := ff_at (sga sg pm) pm 2 hk
                         have hN1 := fn_at1 (sga sg pm) pm 2 hk
                         have hN2 := fn_at2 (sga sg pm) pm 2 hk
                         refine ⟨congrArg some ?_, _, rfl, fun q => ?_⟩ <;> omega)
                · dsimp only [cmpI] at c116
                  refine AW.go 3 (pc' := 123) rfl ?_
                  refine AW.callVF (pn := 126) rfl rfl mlX4_64 (by first | assumption | exact set_self (by first | assumption | exact set_self (by first | assumption | exact set_self (by assumption) | exact set_ne (by first | assumption | decide | omega) (by assumption)) | exact set_ne (by first | assumption | decide | omega) (by first | assumption | exact set_self (by assumption) | exact set_ne (by first | assumption | decide | omega) (by assumption))) | exact set_ne (by first | assumption | decide | omega) (by first | assumption | exact set_self (by first | assumption | exact set_self (by assumption) | exact set_ne (by first | assumption | decide | omega) (by assumption)) | exact set_ne (by first | assumption | decide | omega) (by first | assumption | exact set_self (by assumption) | exact set_ne (by first | assumption | decide | omega) (by assumption)))) (c_X4_isSign (d - 1) (by omega) _ _ _ _ _ _ (by first | assumption | exact set_self (by first | assumption | exact set_self (by first | assumption | exact set_self (by assumption) | exact set_ne (by first | assumption | decide | omega) (by assumption)) | exact set_ne (by first | assumption | decide | omega) (by first | assumption | exact set_self (by assumption) | exact set_ne (by first | assumption | decide | omega) (by assumption))) | exact set_ne (by first | assumption | decide | omega) (by first | assumption | exact set_self (by first | assumption | exact set_self (by assumption) | exact set_ne (by first | assumption | decide | omega) (by assumption)) | exact set_ne (by first | assumption | decide | omega) (by first | assumption | exact set_self (by assumption) | exact set_ne (by first | assumption | decide | omega) (by assumption)))) (by omega) _ (by first | assumption | exact set_self (by first | assumption | exact set_self (by first | assumption | exact set_self (by assumption) | exact set_ne (by first | assumption | decide | omega) (by assumption)) | exact set_ne (by first | assumption | decide | omega) (by first | assumption | exact set_self (by assumption) | exact set_ne (by first | assumption | decide | omega) (by assumption))) | exact set_ne (by first | assumption | decide | omega) (by first | assumption | exact set_self (by first | assumption | exact set_self (by assumption) | exact set_ne (by first | assumption | decide | omega) (by assumption)) | exact set_ne (by first | assumption | decide | omega) (by first | assumption | exact set_self (by assumption) | exact set_ne (by first | assumption | decide | omega) (by assumption)))) (by assumption) _ _ (by omega) (by omega)) rfl rfl (Nat.le_of_ble_eq_true rfl) ⟨by show d - 1 + 1 ≤ d; omega, by show 40 * (d - 1 + 1) ≤ 40 * d; omega⟩ ⟨Nat.zero_le _, Nat.zero_le _⟩ ?_
                  refine AW.bnz (tgt := 139) (pn := 129) rfl (by decide) rfl (fun c126 => ?_) (fun c126 => ?_)
                  · refine AW.go 2 (pc' := 142) rfl ?_
                    refine AW.getf (pn := 145) rfl rfl flX4_16 (by first | assumption | exact set_self (by first | assumption | exact set_self (by first | assumption | exact set_self (by assumption) | exact set_ne (by first | assumption | decide | omega) (by assumption)) | exact set_ne (by first | assumption | decide | omega) (by first | assumption | exact set_self (by assumption) | exact set_ne (by first | assumption | decide | omega) (by assumption))) | exact set_ne (by first | assumption | decide | omega) (by first | assumption | exact set_self (by first | assumption | exact set_self (by assumption) | exact set_ne (by first | assumption | decide | omega) (by assumption)) | exact set_ne (by first | assumption | decide | omega) (by first | assumption | exact set_self (by assumption) | exact set_ne (by first | assumption | decide | omega) (by assumption)))) rfl ?_
                    refine AW.go 1 (pc' := 146) rfl ?_
                    refine AW.iald (pn := 147) rfl rfl (by first | assumption | exact set_self (by first | assumption | exact set_self (by first | assumption | exact set_self (by assumption) | exact set_ne (by first | assumption | decide | omega) (by assumption)) | exact set_ne (by first | assumption | decide | omega) (by first | assumption | exact set_self (by assumption) | exact set_ne (by first | assumption | decide | omega) (by assumption))) | exact set_ne (by first | assumption | decide | omega) (by first | assumption | exact set_self (by first | assumption | exact set_self (by assumption) | exact set_ne (by first | assumption | decide | omega) (by assumption)) | exact set_ne (by first | assumption | decide | omega) (by first | assumption | exact set_self (by assumption) | exact set_ne (by first | assumption | decide | omega) (by assumption)))) (by decide) (by omega) (by omega) ?_
                    refine AW.go 11 (pc' := 162) rfl ?_
                    refine AW.putf (pn := 165) rfl rfl flX4_68 (by first | assumption | exact set_self (by first | assumption | exact set_self (by first | assumption | exact set_self (by assumption) | exact set_ne (by first | assumption | decide | omega) (by assumption)) | exact set_ne (by first | assumption | decide | omega) (by first | assumption | exact set_self (by assumption) | exact set_ne (by first | assumption | decide | omega) (by assumption))) | exact set_ne (by first | assumption | decide | omega) (by first | assumption | exact set_self (by first | assumption | exact set_self (by assumption) | exact set_ne (by first | assumption | decide | omega) (by assumption)) | exact set_ne (by first | assumption | decide | omega) (by first | assumption | exact set_self (by assumption) | exact set_ne (by first | assumption | decide | omega) (by assumption)))) rfl (by first | trivial | exact bI_01 _ | exact Or.inl rfl | exact Or.inr rfl) ?_
                    refine AW.go 2 (pc' := 167) rfl ?_
                    refine AW.getf (pn := 170) rfl rfl flX4_52 (by first | assumption | exact set_self (by first | assumption | exact set_self (by first | assumption | exact set_self (by assumption) | exact set_ne (by first | assumption | decide | omega) (by assumption)) | exact set_ne (by first | assumption | decide | omega) (by first | assumption | exact set_self (by assumption) | exact set_ne (by first | assumption | decide | omega) (by assumption))) | exact set_ne (by first | assumption | decide | omega) (by first | assumption | exact set_self (by first | assumption | exact set_self (by assumption) | exact set_ne (by first | assumption | decide | omega) (by assumption)) | exact set_ne (by first | assumption | decide | omega) (by first | assumption | exact set_self (by assumption) | exact set_ne (by first | assumption | decide | omega) (by assumption)))) rfl ?_
                    refine AW.bi (tgt := 177) (pn := 173) rfl (by decide) rfl (by first | exact bI_rng _ | exact ⟨by omega, by omega⟩) (by first | exact bI_rng _ | exact ⟨by omega, by omega⟩) (fun c170 => ?_) (fun c170 => ?_)
                    · dsimp only [cmpI] at c170
                      refine AW.go 1 (pc' := 179) rfl ?_
                      refine AW.ret rfl rfl (Nat.le_refl _) (Nat.le_refl _) ?_
                      first
                        | (exfalso; omega)
                        | (have hk : ksg (sga sg pm) = 1 := by omega
                           have hF := ff_at (sga sg pm) pm 1 hk
                           have hN1 := fn_at1 (sga sg pm) pm 1 hk
                           have hN2 := fn_at2 (sga sg pm) pm 1 hk
                           refine ⟨congrArg some ?_, _, rfl, fun q => ?_⟩ <;> omega)
                        | (have hk : ksg (sga sg pm) = 2 := by omega
                           have hF := ff_at (sga sg pm) pm 2 hk
                           have hN1 := fn_at1 (sga sg pm) pm 2 hk
                           have hN2 := fn_at2 (sga sg pm) pm 2 hk
                           refine ⟨congrArg some ?_, _, rfl, fun q => ?_⟩ <;> omega)
                    · dsimp only [cmpI] at c170
                      refine AW.go 2 (pc' := 179) rfl ?_
                      refine AW.ret rfl rfl (Nat.le_refl _) (Nat.le_refl _) ?_
                      first
                        | (exfalso; omega)
                        | (have hk : ksg (sga sg pm) = 1 := by omega
                           have hF := ff_at (sga sg pm) pm 1 hk
                           have hN1 := fn_at1 (sga sg pm) pm 1 hk
                           have hN2 := fn_at2 (sga sg pm) pm 1 hk
                           refine ⟨congrArg some ?_, _, rfl, fun q => ?_⟩ <;> omega)
                        | (have hk : ksg (sga sg pm) = 2 := by omega
                           have hF := ff_at (sga sg pm) pm 2 hk
                           have hN1 := fn_at1 (sga sg pm) pm 2 hk
                           have hN2 := fn_at2 (sga sg pm) pm 2 hk
                           refine ⟨congrArg some ?_, _, rfl, fun q => ?_⟩ <;> omega)
                  · refine AW.go 3 (pc' := 133) rfl ?_
                    refine AW.callVF (pn := 136) rfl rfl mlX4_64 (by first | assumption | exact set_self (by first | assumption | exact set_self (by first | assumption | exact set_self (by assumption) | exact set_ne (by first | assumption | decide | omega) (by assumption)) | exact set_ne (by first | assumption | decide | omega) (by first | assumption | exact set_self (by assumption) | exact set_ne (by first | assumption | decide | omega) (by assumption))) | exact set_ne (by first | assumption | decide | omega) (by first | assumption | exact set_self (by first | assumption | exact set_self (by assumption) | exact set_ne (by first | assumption | decide | omega) (by assumption)) | exact set_ne (by first | assumption | decide | omega) (by first | assumption | exact set_self (by assumption) | exact set_ne (by first | assumption | decide | omega) (by assumption)))) (c_X4_isSign (d - 1) (by omega) _ _ _ _ _ _ (by first | assumption | exact set_self (by first | assumption | exact set_self (by first | assumption | exact set_self (by assumption) | exact set_ne (by first | assumption | decide | omega) (by assumption)) | exact set_ne (by first | assumption | decide | omega) (by first | assumption | exact set_self (by assumption) | exact set_ne (by first | assumption | decide | omega) (by assumption))) | exact set_ne (by first | assumption | decide | omega) (by first | assumption | exact set_self (by first | assumption | exact set_self (by assumption) | exact set_ne (by first | assumption | decide | omega) (by assumption)) | exact set_ne (by first | assumption | decide | omega) (by first | assumption | exact set_self (by assumption) | exact set_ne (by first | assumption | decide | omega) (by assumption)))) (by omega) _ (by first | assumption | exact set_self (by first | assumption | exact set_self (by first | assumption | exact set_self (by assumption) | exact set_ne (by first | assumption | decide | omega) (by assumption)) | exact set_ne (by first | assumption | decide | omega) (by first | assumption | exact set_self (by assumption) | exact set_ne (by first | assumption | decide | omega) (by assumption))) | exact set_ne (by first | assumption | decide | omega) (by first | assumption | exact set_self (by first | assumption | exact set_self (by assumption) | exact set_ne (by first | assumption | decide | omega) (by assumption)) | exact set_ne (by first | assumption | decide | omega) (by first | assumption | exact set_self (by assumption) | exact set_ne (by first | assumption | decide | omega) (by assumption)))) (by assumption) _ _ (by omega) (by omega)) rfl rfl (Nat.le_of_ble_eq_true rfl) ⟨by show d - 1 + 1 ≤ d; omega, by show 40 * (d - 1 + 1) ≤ 40 * d; omega⟩ ⟨Nat.zero_le _, Nat.zero_le _⟩ ?_
                    refine AW.bz (tgt := 155) (pn := 139) rfl (by decide) rfl (fun c136 => ?_) (fun c136 => ?_)
                    · refine AW.go 6 (pc' := 162) rfl ?_
                      refine AW.putf (pn := 165) rfl rfl flX4_68 (by first | assumption | exact set_self (by first | assumption | exact set_self (by first | assumption | exact set_self (by assumption) | exact set_ne (by first | assumption | decide | omega) (by assumption)) | exact set_ne (by first | assumption | decide | omega) (by first | assumption | exact set_self (by assumption) | exact set_ne (by first | assumption | decide | omega) (by assumption))) | exact set_ne (by first | assumption | decide | omega) (by first | assumption | exact set_self (by first | assumption | exact set_self (by assumption) | exact set_ne (by first | assumption | decide | omega) (by assumption)) | exact set_ne (by first | assumption | decide | omega) (by first | assumption | exact set_self (by assumption) | exact set_ne (by first | assumption | decide | omega) (by assumption)))) rfl (by first | trivial | exact bI_01 _ | exact Or.inl rfl | exact Or.inr rfl) ?_
                      refine AW.go 2 (pc' := 167) rfl ?_
                      refine AW.getf (pn := 170) rfl rfl flX4_52 (by first | assumption | exact set_self (by first | assumption | exact set_self (by first | assumption | exact set_self (by assumption) | exact set_ne (by first | assumption | decide | omega) (by assumption)) | exact set_ne (by first | assumption | decide | omega) (by first | assumption | exact set_self (by assumption) | exact set_ne (by first | assumption | decide | omega) (by assumption))) | exact set_ne (by first | assumption | decide | omega) (by first | assumption | exact set_self (by first | assumption | exact set_self (by assumption) | exact set_ne (by first | assumption | decide | omega) (by assumption)) | exact set_ne (by first | assumption | decide | omega) (by first | assumption | exact set_self (by assumption) | exact set_ne (by first | assumption | decide | omega) (by assumption)))) rfl ?_
                      refine AW.bi (tgt := 177) (pn := 173) rfl (by decide) rfl (by first | exact bI_rng _ | exact ⟨by omega, by omega⟩) (by first | exact bI_rng _ | exact ⟨by omega, by omega⟩) (fun c170 => ?_) (fun c170 => ?_)
                      · dsimp only [cmpI] at c170
                        refine AW.go 1 (pc' := 179) rfl ?_
                        refine AW.ret rfl rfl (Nat.le_refl _) (Nat.le_refl _) ?_
                        first
                          | (exfalso; omega)
                          | (have hk : ksg (sga sg pm) = 1 := by omega
                             have hF := ff_at (sga sg pm) pm 1 hk
                             have hN1 := fn_at1 (sga sg pm) pm 1 hk
                             have hN2 := fn_at2 (sga sg pm) pm 1 hk
                             refine ⟨congrArg some ?_, _, rfl, fun q => ?_⟩ <;> omega)
                          | (have hk : ksg (sga sg pm) = 2 := by omega
                             have hF := ff_at (sga sg pm) pm 2 hk
                             have hN1 := fn_at1 (sga sg pm) pm 2 hk
                             have hN2 := fn_at2 (sga sg pm) pm 2 hk
                             refine ⟨congrArg some ?_, _, rfl, fun q => ?_⟩ <;> omega)
                      · dsimp only [cmpI] at c170
                        refine AW.go 2 (pc' := 179) rfl ?_
                        refine AW.ret rfl rfl (Nat.le_refl _) (Nat.le_refl _) ?_
                        first
                          | (exfalso; omega)
                          | (have hk : ksg (sga sg pm) = 1 := by omega
                             have hF := ff_at (sga sg pm) pm 1 hk
                             have hN1 := fn_at1 (sga sg pm) pm 1 hk
                             have hN2 := fn_at2 (sga sg pm) pm 1 hk
                             refine ⟨congrArg some ?_, _, rfl, fun q => ?_⟩ <;> omega)
                          | (have hk : ksg (sga sg pm) = 2 := by omega
                             have hF := ff_at (sga sg pm) pm 2 hk
                             have hN1 := fn_at1 (sga sg pm) pm 2 hk
                             have hN2 := fn_at2 (sga sg pm) pm 2 hk
                             refine ⟨congrArg some ?_, _, rfl, fun q => ?_⟩ <;> omega)
                    · refine AW.go 2 (pc' := 142) rfl ?_
                      refine AW.getf (pn := 145) rfl rfl flX4_16 (by first | assumption | exact set_self (by first | assumption | exact set_self (by first | assumption | exact set_self (by assumption) | exact set_ne (by first | assumption | decide | omega) (by assumption)) | exact set_ne (by first | assumption | decide | omega) (by first | assumption | exact set_self (by assumption) | exact set_ne (by first | assumption | decide | omega) (by assumption))) | exact set_ne (by first | assumption | decide | omega) (by first | assumption | exact set_self (by first | assumption | exact set_self (by assumption) | exact set_ne (by first | assumption | decide | omega) (by assumption)) | exact set_ne (by first | assumption | decide | omega) (by first | assumption | exact set_self (by assumption) | exact set_ne (by first | assumption | decide | omega) (by assumption)))) rfl ?_
                      refine AW.go 1 (pc' := 146) rfl ?_
                      refine AW.iald (pn := 147) rfl rfl (by first | assumption | exact set_self (by first | assumption | exact set_self (by first | assumption | exact set_self (by assumption) | exact set_ne (by first | assumption | decide | omega) (by assumption)) | exact set_ne (by first | assumption | decide | omega) (by first | assumption | exact set_self (by assumption) | exact set_ne (by first | assumption | decide | omega) (by assumption))) | exact set_ne (by first | assumption | decide | omega) (by first | assumption | exact set_self (by first | assumption | exact set_self (by assumption) | exact set_ne (by first | assumption | decide | omega) (by assumption)) | exact set_ne (by first | assumption | decide | omega) (by first | assumption | exact set_self (by assumption) | exact set_ne (by first | assumption | decide | omega) (by assumption)))) (by decide) (by omega) (by omega) ?_
                      refine AW.go 11 (pc' := 162) rfl ?_
                      refine AW.putf (pn := 165) rfl rfl flX4_68 (by first | assumption | exact set_self (by first | assumption | exact set_self (by first | assumption | exact set_self (by assumption) | exact set_ne (by first | assumption | decide | omega) (by assumption)) | exact set_ne (by first | assumption | decide | omega) (by first | assumption | exact set_self (by assumption) | exact set_ne (by first | assumption | decide | omega) (by assumption))) | exact set_ne (by first | assumption | decide | omega) (by first | assumption | exact set_self (by first | assumption | exact set_self (by assumption) | exact set_ne (by first | assumption | decide | omega) (by assumption)) | exact set_ne (by first | assumption | decide | omega) (by first | assumption | exact set_self (by assumption) | exact set_ne (by first | assumption | decide | omega) (by assumption)))) rfl (by first | trivial | exact bI_01 _ | exact Or.inl rfl | exact Or.inr rfl) ?_
                      refine AW.go 2 (pc' := 167) rfl ?_
                      refine AW.getf (pn := 170) rfl rfl flX4_52 (by first | assumption | exact set_self (by first | assumption | exact set_self (by first | assumption | exact set_self (by assumption) | exact set_ne (by first | assumption | decide | omega) (by assumption)) | exact set_ne (by first | assumption | decide | omega) (by first | assumption | exact set_self (by assumption) | exact set_ne (by first | assumption | decide | omega) (by assumption))) | exact set_ne (by first | assumption | decide | omega) (by first | assumption | exact set_self (by first | assumption | exact set_self (by assumption) | exact set_ne (by first | assumption | decide | omega) (by assumption)) | exact set_ne (by first | assumption | decide | omega) (by first | assumption | exact set_self (by assumption) | exact set_ne (by first | assumption | decide | omega) (by assumption)))) rfl ?_
                      refine AW.bi (tgt := 177) (pn := 173) rfl (by decide) rfl (by first | exact bI_rng _ | exact ⟨by omega, by omega⟩) (by first | exact bI_rng _ | exact ⟨by omega, by omega⟩) (fun c170 => ?_) (fun c170 => ?_)
                      · dsimp only [cmpI] at c170
                        refine AW.go 1 (pc' := 179) rfl ?_
                        refine AW.ret rfl rfl (Nat.le_refl _) (Nat.le_refl _) ?_
                        first
                          | (exfalso; omega)
                          | (have hk : ksg (sga sg pm) = 1 := by omega
                             have hF := ff_at (sga sg pm) pm 1 hk
                             have hN1 := fn_at1 (sga sg pm) pm 1 hk
                             have hN2 := fn_at2 (sga sg pm) pm 1 hk
                             refine ⟨congrArg some ?_, _, rfl, fun q => ?_⟩ <;> omega)
                          | (have hk : ksg (sga sg pm) = 2 := by omega
                             have hF := ff_at (sga sg pm) pm 2 hk
                             have hN1 := fn_at1 (sga sg pm) pm 2 hk
                             have hN2 := fn_at2 (sga sg pm) pm 2 hk
                             refine ⟨congrArg some ?_, _, rfl, fun q => ?_⟩ <;> omega)
                      · dsimp only [cmpI] at c170
                        refine AW.go 2 (pc' := 179) rfl ?_
                        refine AW.ret rfl rfl (Nat.le_refl _) (Nat.le_refl _) ?_
                        first
                          | (exfalso; omega)
                          | (have hk : ksg (sga sg pm) = 1 := by omega
                             have hF := ff_at (sga sg pm) pm 1 hk
                             have hN1 := fn_at1 (sga sg pm) pm 1 hk
                             have hN2 := fn_at2 (sga sg pm) pm 1 hk
                             refine ⟨congrArg some ?_, _, rfl, fun q => ?_⟩ <;> omega)
                          | (have hk : ksg (sga sg pm) = 2 := by omega
                             have hF := ff_at (sga sg pm) pm 2 hk
                             have hN1 := fn_at1 (sga sg pm) pm 2 hk
                             have hN2 := fn_at2 (sga sg pm) pm 2 hk
                             refine ⟨congrArg some ?_, _, rfl, fun q => ?_⟩ <;> omega)
              · refine AW.go 1 (pc' := 100) rfl ?_
                refine AW.ret rfl rfl (Nat.le_refl _) (Nat.le_refl _) ?_
                first
                  | (exfalso; omega)
                  | (have hk : ksg (sga sg pm) = 1 := by omega
                     have hF := ff_at (sga sg pm) pm 1 hk
                     have hN1 := fn_at1 (sga sg pm) pm 1 hk
                     have hN2 := fn_at2 (sga sg pm) pm 1 hk
                     refine ⟨congrArg some ?_, rf, (set_same hO).symm, fun q => ?_⟩ <;> omega)
                  | (have hk : ksg (sga sg pm) = 2 := by omega
                     have hF := ff_at (sga sg pm) pm 2 hk
                     have hN1 := fn_at1 (sga sg pm) pm 2 hk
                     have hN2 := fn_at2 (sga sg pm) pm 2 hk
                     refine ⟨congrArg some ?_, rf, (set_same hO).symm, fun q => ?_⟩ <;> omega)
          · dsimp only [cmpI] at c55
            refine AW.go 3 (pc' := 62) rfl ?_
            refine AW.callVF (pn := 65) rfl rfl mlX4_64 (by first | assumption | exact set_self (by first | assumption | exact set_self (by first | assumption | exact set_self (by assumption) | exact set_ne (by first | assumption | decide | omega) (by assumption)) | exact set_ne (by first | assumption | decide | omega) (by first | assumption | exact set_self (by assumption) | exact set_ne (by first | assumption | decide | omega) (by assumption))) | exact set_ne (by first | assumption | decide | omega) (by first | assumption | exact set_self (by first | assumption | exact set_self (by assumption) | exact set_ne (by first | assumption | decide | omega) (by assumption)) | exact set_ne (by first | assumption | decide | omega) (by first | assumption | exact set_self (by assumption) | exact set_ne (by first | assumption | decide | omega) (by assumption)))) (c_X4_isSign (d - 1) (by omega) _ _ _ _ _ _ (by first | assumption | exact set_self (by first | assumption | exact set_self (by first | assumption | exact set_self (by assumption) | exact set_ne (by first | assumption | decide | omega) (by assumption)) | exact set_ne (by first | assumption | decide | omega) (by first | assumption | exact set_self (by assumption) | exact set_ne (by first | assumption | decide | omega) (by assumption))) | exact set_ne (by first | assumption | decide | omega) (by first | assumption | exact set_self (by first | assumption | exact set_self (by assumption) | exact set_ne (by first | assumption | decide | omega) (by assumption)) | exact set_ne (by first | assumption | decide | omega) (by first | assumption | exact set_self (by assumption) | exact set_ne (by first | assumption | decide | omega) (by assumption)))) (by omega) _ (by first | assumption | exact set_self (by first | assumption | exact set_self (by first | assumption | exact set_self (by assumption) | exact set_ne (by first | assumption | decide | omega) (by assumption)) | exact set_ne (by first | assumption | decide | omega) (by first | assumption | exact set_self (by assumption) | exact set_ne (by first | assumption | decide | omega) (by assumption))) | exact set_ne (by first | assumption | decide | omega) (by first | assumption | exact set_self (by first | assumption | exact set_self (by assumption) | exact set_ne (by first | assumption | decide | omega) (by assumption)) | exact set_ne (by first | assumption | decide | omega) (by first | assumption | exact set_self (by assumption) | exact set_ne (by first | assumption | decide | omega) (by assumption)))) (by assumption) _ _ (by omega) (by omega)) rfl rfl (Nat.le_of_ble_eq_true rfl) ⟨by show d - 1 + 1 ≤ d; omega, by show 40 * (d - 1 + 1) ≤ 40 * d; omega⟩ ⟨Nat.zero_le _, Nat.zero_le _⟩ ?_
            refine AW.bz (tgt := 72) (pn := 68) rfl (by decide) rfl (fun c65 => ?_) (fun c65 => ?_)
            · refine AW.go 2 (pc' := 74) rfl ?_
              refine AW.getf (pn := 77) rfl rfl flX4_52 (by first | assumption | exact set_self (by first | assumption | exact set_self (by first | assumption | exact set_self (by assumption) | exact set_ne (by first | assumption | decide | omega) (by assumption)) | exact set_ne (by first | assumption | decide | omega) (by first | assumption | exact set_self (by assumption) | exact set_ne (by first | assumption | decide | omega) (by assumption))) | exact set_ne (by first | assumption | decide | omega) (by first | assumption | exact set_self (by first | assumption | exact set_self (by assumption) | exact set_ne (by first | assumption | decide | omega) (by assumption)) | exact set_ne (by first | assumption | decide | omega) (by first | assumption | exact set_self (by assumption) | exact set_ne (by first | assumption | decide | omega) (by assumption)))) rfl ?_
              refine AW.bi (tgt := 99) (pn := 80) rfl (by decide) rfl (by first | exact bI_rng _ | exact ⟨by omega, by omega⟩) (by first | exact bI_rng _ | exact ⟨by omega, by omega⟩) (fun c77 => ?_) (fun c77 => ?_)
              · dsimp only [cmpI] at c77
                refine AW.go 1 (pc' := 100) rfl ?_
                refine AW.ret rfl rfl (Nat.le_refl _) (Nat.le_refl _) ?_
                first
                  | (exfalso; omega)
                  | (have hk : ksg (sga sg pm) = 1 := by omega
                     have hF := ff_at (sga sg pm) pm 1 hk
                     have hN1 := fn_at1 (sga sg pm) pm 1 hk
                     have hN2 := fn_at2 (sga sg pm) pm 1 hk
                     refine ⟨congrArg some ?_, rf, (set_same hO).symm, fun q => ?_⟩ <;> omega)
                  | (have hk : ksg (sga sg pm) = 2 := by omega
                     have hF := ff_at (sga sg pm) pm 2 hk
                     have hN1 := fn_at1 (sga sg pm) pm 2 hk
                     have hN2 := fn_at2 (sga sg pm) pm 2 hk
                     refine ⟨congrArg some ?_, rf, (set_same hO).symm, fun q => ?_⟩ <;> omega)
              · dsimp only [cmpI] at c77
                refine AW.go 1 (pc' := 81) rfl ?_
                refine AW.getf (pn := 84) rfl rfl flX4_16 (by first | assumption | exact set_self (by first | assumption | exact set_self (by first | assumption | exact set_self (by assumption) | exact set_ne (by first | assumption | decide | omega) (by assumption)) | exact set_ne (by first | assumption | decide | omega) (by first | assumption | exact set_self (by assumption) | exact set_ne (by first | assumption | decide | omega) (by assumption))) | exact set_ne (by first | assumption | decide | omega) (by first | assumption | exact set_self (by first | assumption | exact set_self (by assumption) | exact set_ne (by first | assumption | decide | omega) (by assumption)) | exact set_ne (by first | assumption | decide | omega) (by first | assumption | exact set_self (by assumption) | exact set_ne (by first | assumption | decide | omega) (by assumption)))) rfl ?_
                refine AW.go 1 (pc' := 85) rfl ?_
                refine AW.iald (pn := 86) rfl rfl (by first | assumption | exact set_self (by first | assumption | exact set_self (by first | assumption | exact set_self (by assumption) | exact set_ne (by first | assumption | decide | omega) (by assumption)) | exact set_ne (by first | assumption | decide | omega) (by first | assumption | exact set_self (by assumption) | exact set_ne (by first | assumption | decide | omega) (by assumption))) | exact set_ne (by first | assumption | decide | omega) (by first | assumption | exact set_self (by first | assumption | exact set_self (by assumption) | exact set_ne (by first | assumption | decide | omega) (by assumption)) | exact set_ne (by first | assumption | decide | omega) (by first | assumption | exact set_self (by assumption) | exact set_ne (by first | assumption | decide | omega) (by assumption)))) (by decide) (by omega) (by omega) ?_
                refine AW.i2l (pn := 87) rfl rfl (by first | exact bI_rng _ | exact ⟨by omega, by omega⟩) ?_
                refine AW.ldc2 (pn := 90) rfl rfl clX4_56 ?_
                refine AW.ldc2 (pn := 93) rfl rfl clX4_58 ?_
                refine AW.callSF (pn := 96) rfl rfl mlX4_40 (c_X4_in (d - 1) (by omega) _ _ _ _ (by omega) (by omega) (by omega)) rfl rfl (Nat.le_of_ble_eq_true rfl) ⟨by show d - 1 + 1 ≤ d; omega, by show 40 * (d - 1 + 1) ≤ 40 * d; omega⟩ ⟨Nat.zero_le _, Nat.zero_le _⟩ ?_
                refine AW.bnz (tgt := 101) (pn := 99) rfl (by decide) rfl (fun c96 => ?_) (fun c96 => ?_)
                · refine AW.go 1 (pc' := 102) rfl ?_
                  refine AW.getf (pn := 105) rfl rfl flX4_16 (by first | assumption | exact set_self (by first | assumption | exact set_self (by first | assumption | exact set_self (by assumption) | exact set_ne (by first | assumption | decide | omega) (by assumption)) | exact set_ne (by first | assumption | decide | omega) (by first | assumption | exact set_self (by assumption) | exact set_ne (by first | assumption | decide | omega) (by assumption))) | exact set_ne (by first | assumption | decide | omega) (by first | assumption | exact set_self (by first | assumption | exact set_self (by assumption) | exact set_ne (by first | assumption | decide | omega) (by assumption)) | exact set_ne (by first | assumption | decide | omega) (by first | assumption | exact set_self (by assumption) | exact set_ne (by first | assumption | decide | omega) (by assumption)))) rfl ?_
                  refine AW.go 1 (pc' := 106) rfl ?_
                  refine AW.iald (pn := 107) rfl rfl (by first | assumption | exact set_self (by first | assumption | exact set_self (by first | assumption | exact set_self (by assumption) | exact set_ne (by first | assumption | decide | omega) (by assumption)) | exact set_ne (by first | assumption | decide | omega) (by first | assumption | exact set_self (by assumption) | exact set_ne (by first | assumption | decide | omega) (by assumption))) | exact set_ne (by first | assumption | decide | omega) (by first | assumption | exact set_self (by first | assumption | exact set_self (by assumption) | exact set_ne (by first | assumption | decide | omega) (by assumption)) | exact set_ne (by first | assumption | decide | omega) (by first | assumption | exact set_self (by assumption) | exact set_ne (by first | assumption | decide | omega) (by assumption)))) (by decide) (by omega) (by omega) ?_
                  refine AW.go 6 (pc' := 116) rfl ?_
                  refine AW.bi (tgt := 155) (pn := 119) rfl (by decide) rfl (by first | exact bI_rng _ | exact ⟨by omega, by omega⟩) (by first | exact bI_rng _ | exact ⟨by omega, by omega⟩) (fun c116 => ?_) (fun c116 => ?_)
                  · dsimp only [cmpI] at c116
                    refine AW.go 6 (pc' := 162) rfl ?_
                    refine AW.putf (pn := 165) rfl rfl flX4_68 (by first | assumption | exact set_self (by first | assumption | exact set_self (by first | assumption | exact set_self (by assumption) | exact set_ne (by first | assumption | decide | omega) (by assumption)) | exact set_ne (by first | assumption | decide | omega) (by first | assumption | exact set_self (by assumption) | exact set_ne (by first | assumption | decide | omega) (by assumption))) | exact set_ne (by first | assumption | decide | omega) (by first | assumption | exact set_self (by first | assumption | exact set_self (by assumption) | exact set_ne (by first | assumption | decide | omega) (by assumption)) | exact set_ne (by first | assumption | decide | omega) (by first | assumption | exact set_self (by assumption) | exact set_ne (by first | assumption | decide | omega) (by assumption)))) rfl (by first | trivial | exact bI_01 _ | exact Or.inl rfl | exact Or.inr rfl) ?_
                    refine AW.go 2 (pc' := 167) rfl ?_
                    refine AW.getf (pn := 170) rfl rfl flX4_52 (by first | assumption | exact set_self (by first | assumption | exact set_self (by first | assumption | exact set_self (by assumption) | exact set_ne (by first | assumption | decide | omega) (by assumption)) | exact set_ne (by first | assumption | decide | omega) (by first | assumption | exact set_self (by assumption) | exact set_ne (by first | assumption | decide | omega) (by assumption))) | exact set_ne (by first | assumption | decide | omega) (by first | assumption | exact set_self (by first | assumption | exact set_self (by assumption) | exact set_ne (by first | assumption | decide | omega) (by assumption)) | exact set_ne (by first | assumption | decide | omega) (by first | assumption | exact set_self (by assumption) | exact set_ne (by first | assumption | decide | omega) (by assumption)))) rfl ?_
                    refine AW.bi (tgt := 177) (pn := 173) rfl (by decide) rfl (by first | exact bI_rng _ | exact ⟨by omega, by omega⟩) (by first | exact bI_rng _ | exact ⟨by omega, by omega⟩) (fun c170 => ?_) (fun c170 => ?_)
                    · dsimp only [cmpI] at c170
                      refine AW.go 1 (pc' := 179) rfl ?_
                      refine AW.ret rfl rfl (Nat.le_refl _) (Nat.le_refl _) ?_
                      first
                        | (exfalso; omega)
                        | (have hk : ksg (sga sg pm) = 1 := by omega
                           have hF := ff_at (sga sg pm) pm 1 hk
                           have hN1 := fn_at1 (sga sg pm) pm 1 hk
                           have hN2 := fn_at2 (sga sg pm) pm 1 hk
                           refine ⟨congrArg some ?_, _, rfl, fun q => ?_⟩ <;> omega)
                        | (have hk : ksg (sga sg pm) = 2 := by omega
                           have hF := ff_at (sga sg pm) pm 2 hk
                           have hN1 := fn_at1 (sga sg pm) pm 2 hk
                           have hN2 := fn_at2 (sga sg pm) pm 2 hk
                           refine ⟨congrArg some ?_, _, rfl, fun q => ?_⟩ <;> omega)
                    · dsimp only [cmpI] at c170
                      refine AW.go 2 (pc' := 179) rfl ?_
                      refine AW.ret rfl rfl (Nat.le_refl _) (Nat.le_refl _) ?_
                      first
                        | (exfalso; omega)
                        | (have hk : ksg (sga sg pm) = 1 := by omega
                           have hF := ff_at (sga sg pm) pm 1 hk
                           have hN1 := fn_at1 (sga sg pm) pm 1 hk
                           have hN2 := fn_at2 (sga sg pm) pm 1 hk
                           refine ⟨congrArg some ?_, _, rfl, fun q => ?_⟩ <;> omega)
                        | (have hk : ksg (sga sg pm) = 2 := by omega
                           have hF := ff_at (sga sg pm) pm 2 hk
                           have hN1 := fn_at1 (sga sg pm) pm 2 hk
                           have hN2 := fn_at2 (sga sg pm) pm 2 hk
                           refine ⟨congrArg some ?_, _, rfl, fun q => ?_⟩ <;> omega)
                  · dsimp only [cmpI] at c116
                    refine AW.go 3 (pc' := 123) rfl ?_
                    refine AW.callVF (pn := 126) rfl rfl mlX4_64 (by first | assumption | exact set_self (by first | assumption | exact set_self (by first | assumption | exact set_self (by assumption) | exact set_ne (by first | assumption | decide | omega) (by assumption)) | exact set_ne (by first | assumption | decide | omega) (by first | assumption | exact set_self (by assumption) | exact set_ne (by first | assumption | decide | omega) (by assumption))) | exact set_ne (by first | assumption | decide | omega) (by first | assumption | exact set_self (by first | assumption | exact set_self (by assumption) | exact set_ne (by first | assumption | decide | omega) (by assumption)) | exact set_ne (by first | assumption | decide | omega) (by first | assumption | exact set_self (by assumption) | exact set_ne (by first | assumption | decide | omega) (by assumption)))) (c_X4_isSign (d - 1) (by omega) _ _ _ _ _ _ (by first | assumption | exact set_self (by first | assumption | exact set_self (by first | assumption | exact set_self (by assumption) | exact set_ne (by first | assumption | decide | omega) (by assumption)) | exact set_ne (by first | assumption | decide | omega) (by first | assumption | exact set_self (by assumption) | exact set_ne (by first | assumption | decide | omega) (by assumption))) | exact set_ne (by first | assumption | decide | omega) (by first | assumption | exact set_self (by first | assumption | exact set_self (by assumption) | exact set_ne (by first | assumption | decide | omega) (by assumption)) | exact set_ne (by first | assumption | decide | omega) (by first | assumption | exact set_self (by assumption) | exact set_ne (by first | assumption | decide | omega) (by assumption)))) (by omega) _ (by first | assumption | exact set_self (by first | assumption | exact set_self (by first | assumption | exact set_self (by assumption) | exact set_ne (by first | assumption | decide | omega) (by assumption)) | exact set_ne (by first | assumption | decide | omega) (by first | assumption | exact set_self (by assumption) | exact set_ne (by first | assumption | decide | omega) (by assumption))) | exact set_ne (by first | assumption | decide | omega) (by first | assumption | exact set_self (by first | assumption | exact set_self (by assumption) | exact set_ne (by first | assumption | decide | omega) (by assumption)) | exact set_ne (by first | assumption | decide | omega) (by first | assumption | exact set_self (by assumption) | exact set_ne (by first | assumption | decide | omega) (by assumption)))) (by assumption) _ _ (by omega) (by omega)) rfl rfl (Nat.le_of_ble_eq_true rfl) ⟨by show d - 1 + 1 ≤ d; omega, by show 40 * (d - 1 + 1) ≤ 40 * d; omega⟩ ⟨Nat.zero_le _, Nat.zero_le _⟩ ?_
                    refine AW.bnz (tgt := 139) (pn := 129) rfl (by decide) rfl (fun c126 => ?_) (fun c126 => ?_)
                    · refine AW.go 2 (pc' := 142) rfl ?_
                      refine AW.getf (pn := 145) rfl rfl flX4_16 (by first | assumption | exact set_self (by first | assumption | exact set_self (by first | assumption | exact set_self (by assumption) | exact set_ne (by first | assumption | decide | omega) (by assumption)) | exact set_ne (by first | assumption | decide | omega) (by first | assumption | exact set_self (by assumption) | exact set_ne (by first | assumption | decide | omega) (by assumption))) | exact set_ne (by first | assumption | decide | omega) (by first | assumption | exact set_self (by first | assumption | exact set_self (by assumption) | exact set_ne (by first | assumption | decide | omega) (by assumption)) | exact set_ne (by first | assumption | decide | omega) (by first | assumption | exact set_self (by assumption) | exact set_ne (by first | assumption | decide | omega) (by assumption)))) rfl ?_
                      refine AW.go 1 (pc' := 146) rfl ?_
                      refine AW.iald (pn := 147) rfl rfl (by first | assumption | exact set_self (by first | assumption | exact set_self (by first | assumption | exact set_self (by assumption) | exact set_ne (by first | assumption | decide | omega) (by assumption)) | exact set_ne (by first | assumption | decide | omega) (by first | assumption | exact set_self (by assumption) | exact set_ne (by first | assumption | decide | omega) (by assumption))) | exact set_ne (by first | assumption | decide | omega) (by first | assumption | exact set_self (by first | assumption | exact set_self (by assumption) | exact set_ne (by first | assumption | decide | omega) (by assumption)) | exact set_ne (by first | assumption | decide | omega) (by first | assumption | exact set_self (by assumption) | exact set_ne (by first | assumption | decide | omega) (by assumption)))) (by decide) (by omega) (by omega) ?_
                      refine AW.go 11 (pc' := 162) rfl ?_
                      refine AW.putf (pn := 165) rfl rfl flX4_68 (by first | assumption | exact set_self (by first | assumption | exact set_self (by first | assumption | exact set_self (by assumption) | exact set_ne (by first | assumption | decide | omega) (by assumption)) | exact set_ne (by first | assumption | decide | omega) (by first | assumption | exact set_self (by assumption) | exact set_ne (by first | assumption | decide | omega) (by assumption))) | exact set_ne (by first | assumption | decide | omega) (by first | assumption | exact set_self (by first | assumption | exact set_self (by assumption) | exact set_ne (by first | assumption | decide | omega) (by assumption)) | exact set_ne (by first | assumption | decide | omega) (by first | assumption | exact set_self (by assumption) | exact set_ne (by first | assumption | decide | omega) (by assumption)))) rfl (by first | trivial | exact bI_01 _ | exact Or.inl rfl | exact Or.inr rfl) ?_
                      refine AW.go 2 (pc' := 167) rfl ?_
                      refine AW.getf (pn := 170) rfl rfl flX4_52 (by first | assumption | exact set_self (by first | assumption | exact set_self (by first | assumption | exact set_self (by assumption) | exact set_ne (by first | assumption | decide | omega) (by assumption)) | exact set_ne (by first | assumption | decide | omega) (by first | assumption | exact set_self (by assumption) | exact set_ne (by first | assumption | decide | omega) (by assumption))) | exact set_ne (by first | assumption | decide | omega) (by first | assumption | exact set_self (by first | assumption | exact set_self (by assumption) | exact set_ne (by first | assumption | decide | omega) (by assumption)) | exact set_ne (by first | assumption | decide | omega) (by first | assumption | exact set_self (by assumption) | exact set_ne (by first | assumption | decide | omega) (by assumption)))) rfl ?_
                      refine AW.bi (tgt := 177) (pn := 173) rfl (by decide) rfl (by first | exact bI_rng _ | exact ⟨by omega, by omega⟩) (by first | exact bI_rng _ | exact ⟨by omega, by omega⟩) (fun c170 => ?_) (fun c170 => ?_)
                      · dsimp only [cmpI] at c170
                        refine AW.go 1 (pc' := 179) rfl ?_
                        refine AW.ret rfl rfl (Nat.le_refl _) (Nat.le_refl _) ?_
                        first
                          | (exfalso; omega)
                          | (have hk : ksg (sga sg pm) = 1 := by omega
                             have hF := ff_at (sga sg pm) pm 1 hk
                             have hN1 := fn_at1 (sga sg pm) pm 1 hk
                             have hN2 := fn_at2 (sga sg pm) pm 1 hk
                             refine ⟨congrArg some ?_, _, rfl, fun q => ?_⟩ <;> omega)
                          | (have hk : ksg (sga sg pm) = 2 := by omega
                             have hF := ff_at (sga sg pm) pm 2 hk
                             have hN1 := fn_at1 (sga sg pm) pm 2 hk
                             have hN2 := fn_at2 (sga sg pm) pm 2 hk
                             refine ⟨congrArg some ?_, _, rfl, fun q => ?_⟩ <;> omega)
                      · dsimp only [cmpI] at c170
                        refine AW.go 2 (pc' := 179) rfl ?_
                        refine AW.ret rfl rfl (Nat.le_refl _) (Nat.le_refl _) ?_
                        first
                          | (exfalso; omega)
                          | (have hk : ksg (sga sg pm) = 1 := by omega
                             have hF := ff_at (sga sg pm) pm 1 hk
                             have hN1 := fn_at1 (sga sg pm) pm 1 hk
                             have hN2 := fn_at2 (sga sg pm) pm 1 hk
                             refine ⟨congrArg some ?_, _, rfl, fun q => ?_⟩ <;> omega)
                          | (have hk : ksg (sga sg pm) = 2 := by omega
                             have hF := ff_at (sga sg pm) pm 2 hk
                             have hN1 := fn_at1 (sga sg pm) pm 2 hk
                             have hN2 := fn_at2 (sga sg pm) pm 2 hk
                             refine ⟨congrArg some ?_, _, rfl, fun q => ?_⟩ <;> omega)
                    · refine AW.go 3 (pc' := 133) rfl ?_
                      refine AW.callVF (pn := 136) rfl rfl mlX4_64 (by first | assumption | exact set_self (by first | assumption | exact set_self (by first | assumption | exact set_self (by assumption) | exact set_ne (by first | assumption | decide | omega) (by assumption)) | exact set_ne (by first | assumption | decide | omega) (by first | assumption | exact set_self (by assumption) | exact set_ne (by first | assumption | decide | omega) (by assumption))) | exact set_ne (by first | assumption | decide | omega) (by first | assumption | exact set_self (by first | assumption | exact set_self (by assumption) | exact set_ne (by first | assumption | decide | omega) (by assumption)) | exact set_ne (by first | assumption | decide | omega) (by first | assumption | exact set_self (by assumption) | exact set_ne (by first | assumption | decide | omega) (by assumption)))) (c_X4_isSign (d - 1) (by omega) _ _ _ _ _ _ (by first | assumption | exact set_self (by first | assumption | exact set_self (by first | assumption | exact set_self (by assumption) | exact set_ne (by first | assumption | decide | omega) (by assumption)) | exact set_ne (by first | assumption | decide | omega) (by first | assumption | exact set_self (by assumption) | exact set_ne (by first | assumption | decide | omega) (by assumption))) | exact set_ne (by first | assumption | decide | omega) (by first | assumption | exact set_self (by first | assumption | exact set_self (by assumption) | exact set_ne (by first | assumption | decide | omega) (by assumption)) | exact set_ne (by first | assumption | decide | omega) (by first | assumption | exact set_self (by assumption) | exact set_ne (by first | assumption | decide | omega) (by assumption)))) (by omega) _ (by first | assumption | exact set_self (by first | assumption | exact set_self (by first | assumption | exact set_self (by assumption) | exact set_ne (by first | assumption | decide | omega) (by assumption)) | exact set_ne (by first | assumption | decide | omega) (by first | assumption | exact set_self (by assumption) | exact set_ne (by first | assumption | decide | omega) (by assumption))) | exact set_ne (by first | assumption | decide | omega) (by first | assumption | exact set_self (by first | assumption | exact set_self (by assumption) | exact set_ne (by first | assumption | decide | omega) (by assumption)) | exact set_ne (by first | assumption | decide | omega) (by first | assumption | exact set_self (by assumption) | exact set_ne (by first | assumption | decide | omega) (by assumption)))) (by assumption) _ _ (by omega) (by omega)) rfl rfl (Nat.le_of_ble_eq_true rfl) ⟨by show d - 1 + 1 ≤ d; omega, by show 40 * (d - 1 + 1) ≤ 40 * d; omega⟩ ⟨Nat.zero_le _, Nat.zero_le _⟩ ?_
                      refine AW.bz (tgt := 155) (pn := 139) rfl (by decide) rfl (fun c136 => ?_) (fun c136 => ?_)
                      · refine AW.go 6 (pc' := 162) rfl ?_
                        refine AW.putf (pn := 165) rfl rfl flX4_68 (by first | assumption | exact set_self (by first | assumption | exact set_self (by first | assumption | exact set_self (by assumption) | exact set_ne (by first | assumption | decide | omega) (by assumption)) | exact set_ne (by first | assumption | decide | omega) (by first | assumption | exact set_self (by assumption) | exact set_ne (by first | assumption | decide | omega) (by assumption))) | exact set_ne (by first | assumption | decide | omega) (by first | assumption | exact set_self (by first | assumption | exact set_self (by assumption) | exact set_ne (by first | assumption | decide | omega) (by assumption)) | exact set_ne (by first | assumption | decide | omega) (by first | assumption | exact set_self (by assumption) | exact set_ne (by first | assumption | decide | omega) (by assumption)))) rfl (by first | trivial | exact bI_01 _ | exact Or.inl rfl | exact Or.inr rfl) ?_
                        refine AW.go 2 (pc' := 167) rfl ?_
                        refine AW.getf (pn := 170) rfl rfl flX4_52 (by first | assumption | exact set_self (by first | assumption | exact set_self (by first | assumption | exact set_self (by assumption) | exact set_ne (by first | assumption | decide | omega) (by assumption)) | exact set_ne (by first | assumption | decide | omega) (by first | assumption | exact set_self (by assumption) | exact set_ne (by first | assumption | decide | omega) (by assumption))) | exact set_ne (by first | assumption | decide | omega) (by first | assumption | exact set_self (by first | assumption | exact set_self (by assumption) | exact set_ne (by first | assumption | decide | omega) (by assumption)) | exact set_ne (by first | assumption | decide | omega) (by first | assumption | exact set_self (by assumption) | exact set_ne (by first | assumption | decide | omega) (by assumption)))) rfl ?_
                        refine AW.bi (tgt := 177) (pn := 173) rfl (by decide) rfl (by first | exact bI_rng _ | exact ⟨by omega, by omega⟩) (by first | exact bI_rng _ | exact ⟨by omega, by omega⟩) (fun c170 => ?_) (fun c170 => ?_)
                        · dsimp only [cmpI] at c170
                          refine AW.go 1 (pc' := 179) rfl ?_
                          refine AW.ret rfl rfl (Nat.le_refl _) (Nat.le_refl _) ?_
                          first
                            | (exfalso; omega)
                            | (have hk : ksg (sga sg pm) = 1 := by omega
                               have hF := ff_at (sga sg pm) pm 1 hk
                               have hN1 := fn_at1 (sga sg pm) pm 1 hk
                               have hN2 := fn_at2 (sga sg pm) pm 1 hk
                               refine ⟨congrArg some ?_, _, rfl, fun q => ?_⟩ <;> omega)
                            | (have hk : ksg (sga sg pm) = 2 := by omega
                               have hF := ff_at (sga sg pm) pm 2 hk
                               have hN1 := fn_at1 (sga sg pm) pm 2 hk
                               have hN2 := fn_at2 (sga sg pm) pm 2 hk
                               refine ⟨congrArg some ?_, _, rfl, fun q => ?_⟩ <;> omega)
                        · dsimp only [cmpI] at c170
                          refine AW.go 2 (pc' := 179) rfl ?_
                          refine AW.ret rfl rfl (Nat.le_refl _) (Nat.le_refl _) ?_
                          first
                            | (exfalso; omega)
                            | (have hk : ksg (sga sg pm) = 1 := by omega
                               have hF := ff_at (sga sg pm) pm 1 hk
                               have hN1 := fn_at1 (sga sg pm) pm 1 hk
                               have hN2 := fn_at2 (sga sg pm) pm 1 hk
                               refine ⟨congrArg some ?_, _, rfl, fun q => ?_⟩ <;> omega)
                            | (have hk : ksg (sga sg pm) = 2 := by omega
                               have hF := ff_at (sga sg pm) pm 2 hk
                               have hN1 := fn_at1 (sga sg pm) pm 2 hk
                               have hN2 := fn_at2 (sga sg pm) pm 2 hk
                               refine ⟨congrArg some ?_, _, rfl, fun q => ?_⟩ <;> omega)
                      · refine AW.go 2 (pc' := 142) rfl ?_
                        refine AW.getf (pn := 145) rfl rfl flX4_16 (by first | assumption | exact set_self (by first | assumption | exact set_self (by first | assumption | exact set_self (by assumption) | exact set_ne (by first | assumption | decide | omega) (by assumption)) | exact set_ne (by first | assumption | decide | omega) (by first | assumption | exact set_self (by assumption) | exact set_ne (by first | assumption | decide | omega) (by assumption))) | exact set_ne (by first | assumption | decide | omega) (by first | assumption | exact set_self (by first | assumption | exact set_self (by assumption) | exact set_ne (by first | assumption | decide | omega) (by assumption)) | exact set_ne (by first | assumption | decide | omega) (by first | assumption | exact set_self (by assumption) | exact set_ne (by first | assumption | decide | omega) (by assumption)))) rfl ?_
                        refine AW.go 1 (pc' := 146) rfl ?_
                        refine AW.iald (pn := 147) rfl rfl (by first | assumption | exact set_self (by first | assumption | exact set_self (by first | assumption | exact set_self (by assumption) | exact set_ne (by first | assumption | decide | omega) (by assumption)) | exact set_ne (by first | assumption | decide | omega) (by first | assumption | exact set_self (by assumption) | exact set_ne (by first | assumption | decide | omega) (by assumption))) | exact set_ne (by first | assumption | decide | omega) (by first | assumption | exact set_self (by first | assumption | exact set_self (by assumption) | exact set_ne (by first | assumption | decide | omega) (by assumption)) | exact set_ne (by first | assumption | decide | omega) (by first | assumption | exact set_self (by assumption) | exact set_ne (by first | assumption | decide | omega) (by assumption)))) (by decide) (by omega) (by omega) ?_
                        refine AW.go 11 (pc' := 162) rfl ?_
                        refine AW.putf (pn := 165) rfl rfl flX4_68 (by first | assumption | exact set_self (by first | assumption | exact set_self (by first | assumption | exact set_self (by assumption) | exact set_ne (by first | assumption | decide | omega) (by assumption)) | exact set_ne (by first | assumption | decide | omega) (by first | assumption | exact set_self (by assumption) | exact set_ne (by first | assumption | decide | omega) (by assumption))) | exact set_ne (by first | assumption | decide | omega) (by first | assumption | exact set_self (by first | assumption | exact set_self (by assumption) | exact set_ne (by first | assumption | decide | omega) (by assumption)) | exact set_ne (by first | assumption | decide | omega) (by first | assumption | exact set_self (by assumption) | exact set_ne (by first | assumption | decide | omega) (by assumption)))) rfl (by first | trivial | exact bI_01 _ | exact Or.inl rfl | exact Or.inr rfl) ?_
                        refine AW.go 2 (pc' := 167) rfl ?_
                        refine AW.getf (pn := 170) rfl rfl flX4_52 (by first | assumption | exact set_self (by first | assumption | exact set_self (by first | assumption | exact set_self (by assumption) | exact set_ne (by first | assumption | decide | omega) (by assumption)) | exact set_ne (by first | assumption | decide | omega) (by first | assumption | exact set_self (by assumption) | exact set_ne (by first | assumption | decide | omega) (by assumption))) | exact set_ne (by first | assumption | decide | omega) (by first | assumption | exact set_self (by first | assumption | exact set_self (by assumption) | exact set_ne (by first | assumption | decide | omega) (by assumption)) | exact set_ne (by first | assumption | decide | omega) (by first | assumption | exact set_self (by assumption) | exact set_ne (by first | assumption | decide | omega) (by assumption)))) rfl ?_
                        refine AW.bi (tgt := 177) (pn := 173) rfl (by decide) rfl (by first | exact bI_rng _ | exact ⟨by omega, by omega⟩) (by first | exact bI_rng _ | exact ⟨by omega, by omega⟩) (fun c170 => ?_) (fun c170 => ?_)
                        · dsimp only [cmpI] at c170
                          refine AW.go 1 (pc' := 179) rfl ?_
                          refine AW.ret rfl rfl (Nat.le_refl _) (Nat.le_refl _) ?_
                          first
                            | (exfalso; omega)
                            | (have hk : ksg (sga sg pm) = 1 := by omega
                               have hF := ff_at (sga sg pm) pm 1 hk
                               have hN1 := fn_at1 (sga sg pm) pm 1 hk
                               have hN2 := fn_at2 (sga sg pm) pm 1 hk
                               refine ⟨congrArg some ?_, _, rfl, fun q => ?_⟩ <;> omega)
                            | (have hk : ksg (sga sg pm) = 2 := by omega
                               have hF := ff_at (sga sg pm) pm 2 hk
                               have hN1 := fn_at1 (sga sg pm) pm 2 hk
                               have hN2 := fn_at2 (sga sg pm) pm 2 hk
                               refine ⟨congrArg some ?_, _, rfl, fun q => ?_⟩ <;> omega)
                        · dsimp only [cmpI] at c170
                          refine AW.go 2 (pc' := 179) rfl ?_
                          refine AW.ret rfl rfl (Nat.le_refl _) (Nat.le_refl _) ?_
                          first
                            | (exfalso; omega)
                            | (have hk : ksg (sga sg pm) = 1 := by omega
                               have hF := ff_at (sga sg pm) pm 1 hk
                               have hN1 := fn_at1 (sga sg pm) pm 1 hk
                               have hN2 := fn_at2 (sga sg pm) pm 1 hk
                               refine ⟨congrArg some ?_, _, rfl, fun q => ?_⟩ <;> omega)
                            | (have hk : ksg (sga sg pm) = 2 := by omega
                               have hF := ff_at (sga sg pm) pm 2 hk
                               have hN1 := fn_at1 (sga sg pm) pm 2 hk
                               have hN2 := fn_at2 (sga sg pm) pm 2 hk
                               refine ⟨congrArg some ?_, _, rfl, fun q => ?_⟩ <;> omega)
                · refine AW.go 1 (pc' := 100) rfl ?_
                  refine AW.ret rfl rfl (Nat.le_refl _) (Nat.le_refl _) ?_
                  first
                    | (exfalso; omega)
                    | (have hk : ksg (sga sg pm) = 1 := by omega
                       have hF := ff_at (sga sg pm) pm 1 hk
                       have hN1 := fn_at1 (sga sg pm) pm 1 hk
                       have hN2 := fn_at2 (sga sg pm) pm 1 hk
                       refine ⟨congrArg some ?_, rf, (set_same hO).symm, fun q => ?_⟩ <;> omega)
                    | (have hk : ksg (sga sg pm) = 2 := by omega
                       have hF := ff_at (sga sg pm) pm 2 hk
                       have hN1 := fn_at1 (sga sg pm) pm 2 hk
                       have hN2 := fn_at2 (sga sg pm) pm 2 hk
                       refine ⟨congrArg some ?_, rf, (set_same hO).symm, fun q => ?_⟩ <;> omega)
            · refine AW.go 6 (pc' := 74) rfl ?_
              refine AW.getf (pn := 77) rfl rfl flX4_52 (by first | assumption | exact set_self (by first | assumption | exact set_self (by first | assumption | exact set_self (by assumption) | exact set_ne (by first | assumption | decide | omega) (by assumption)) | exact set_ne (by first | assumption | decide | omega) (by first | assumption | exact set_self (by assumption) | exact set_ne (by first | assumption | decide | omega) (by assumption))) | exact set_ne (by first | assumption | decide | omega) (by first | assumption | exact set_self (by first | assumption | exact set_self (by assumption) | exact set_ne (by first | assumption | decide | omega) (by assumption)) | exact set_ne (by first | assumption | decide | omega) (by first | assumption | exact set_self (by assumption) | exact set_ne (by first | assumption | decide | omega) (by assumption)))) rfl ?_
              refine AW.bi (tgt := 99) (pn := 80) rfl (by decide) rfl (by first | exact bI_rng _ | exact ⟨by omega, by omega⟩) (by first | exact bI_rng _ | exact ⟨by omega, by omega⟩) (fun c77 => ?_) (fun c77 => ?_)
              · dsimp only [cmpI] at c77
                refine AW.go 1 (pc' := 100) rfl ?_
                refine AW.ret rfl rfl (Nat.le_refl _) (Nat.le_refl _) ?_
                first
                  | (exfalso; omega)
                  | (have hk : ksg (sga sg pm) = 1 := by omega
                     have hF := ff_at (sga sg pm) pm 1 hk
                     have hN1 := fn_at1 (sga sg pm) pm 1 hk
                     have hN2 := fn_at2 (sga sg pm) pm 1 hk
                     refine ⟨congrArg some ?_, rf, (set_same hO).symm, fun q => ?_⟩ <;> omega)
                  | (have hk : ksg (sga sg pm) = 2 := by omega
                     have hF := ff_at (sga sg pm) pm 2 hk
                     have hN1 := fn_at1 (sga sg pm) pm 2 hk
                     have hN2 := fn_at2 (sga sg pm) pm 2 hk
                     refine ⟨congrArg some ?_, rf, (set_same hO).symm, fun q => ?_⟩ <;> omega)
              · dsimp only [cmpI] at c77
                refine AW.go 1 (pc' := 81) rfl ?_
                refine AW.getf (pn := 84) rfl rfl flX4_16 (by first | assumption | exact set_self (by first | assumption | exact set_self (by first | assumption | exact set_self (by assumption) | exact set_ne (by first | assumption | decide | omega) (by assumption)) | exact set_ne (by first | assumption | decide | omega) (by first | assumption | exact set_self (by assumption) | exact set_ne (by first | assumption | decide | omega) (by assumption))) | exact set_ne (by first | assumption | decide | omega) (by first | assumption | exact set_self (by first | assumption | exact set_self (by assumption) | exact set_ne (by first | assumption | decide | omega) (by assumption)) | exact set_ne (by first | assumption | decide | omega) (by first | assumption | exact set_self (by assumption) | exact set_ne (by first | assumption | decide | omega) (by assumption)))) rfl ?_
                refine AW.go 1 (pc' := 85) rfl ?_
                refine AW.iald (pn := 86) rfl rfl (by first | assumption | exact set_self (by first | assumption | exact set_self (by first | assumption | exact set_self (by assumption) | exact set_ne (by first | assumption | decide | omega) (by assumption)) | exact set_ne (by first | assumption | decide | omega) (by first | assumption | exact set_self (by assumption) | exact set_ne (by first | assumption | decide | omega) (by assumption))) | exact set_ne (by first | assumption | decide | omega) (by first | assumption | exact set_self (by first | assumption | exact set_self (by assumption) | exact set_ne (by first | assumption | decide | omega) (by assumption)) | exact set_ne (by first | assumption | decide | omega) (by first | assumption | exact set_self (by assumption) | exact set_ne (by first | assumption | decide | omega) (by assumption)))) (by decide) (by omega) (by omega) ?_
                refine AW.i2l (pn := 87) rfl rfl (by first | exact bI_rng _ | exact ⟨by omega, by omega⟩) ?_
                refine AW.ldc2 (pn := 90) rfl rfl clX4_56 ?_
                refine AW.ldc2 (pn := 93) rfl rfl clX4_58 ?_
                refine AW.callSF (pn := 96) rfl rfl mlX4_40 (c_X4_in (d - 1) (by omega) _ _ _ _ (by omega) (by omega) (by omega)) rfl rfl (Nat.le_of_ble_eq_true rfl) ⟨by show d - 1 + 1 ≤ d; omega, by show 40 * (d - 1 + 1) ≤ 40 * d; omega⟩ ⟨Nat.zero_le _, Nat.zero_le _⟩ ?_
                refine AW.bnz (tgt := 101) (pn := 99) rfl (by decide) rfl (fun c96 => ?_) (fun c96 => ?_)
                · refine AW.go 1 (pc' := 102) rfl ?_
                  refine AW.getf (pn := 105) rfl rfl flX4_16 (by first | assumption | exact set_self (by first | assumption | exact set_self (by first | assumption | exact set_self (by assumption) | exact set_ne (by first | assumption | decide | omega) (by assumption)) | exact set_ne (by first | assumption | decide | omega) (by first | assumption | exact set_self (by assumption) | exact set_ne (by first | assumption | decide | omega) (by assumption))) | exact set_ne (by first | assumption | decide | omega) (by first | assumption | exact set_self (by first | assumption | exact set_self (by assumption) | exact set_ne (by first | assumption | decide | omega) (by assumption)) | exact set_ne (by first | assumption | decide | omega) (by first | assumption | exact set_self (by assumption) | exact set_ne (by first | assumption | decide | omega) (by assumption)))) rfl ?_
                  refine AW.go 1 (pc' := 106) rfl ?_
                  refine AW.iald (pn := 107) rfl rfl (by first | assumption | exact set_self (by first | assumption | exact set_self (by first | assumption | exact set_self (by assumption) | exact set_ne (by first | assumption | decide | omega) (by assumption)) | exact set_ne (by first | assumption | decide | omega) (by first | assumption | exact set_self (by assumption) | exact set_ne (by first | assumption | decide | omega) (by assumption))) | exact set_ne (by first | assumption | decide | omega) (by first | assumption | exact set_self (by first | assumption | exact set_self (by assumption) | exact set_ne (by first | assumption | decide | omega) (by assumption)) | exact set_ne (by first | assumption | decide | omega) (by first | assumption | exact set_self (by assumption) | exact set_ne (by first | assumption | decide | omega) (by assumption)))) (by decide) (by omega) (by omega) ?_
                  refine AW.go 6 (pc' := 116) rfl ?_
                  refine AW.bi (tgt := 155) (pn := 119) rfl (by decide) rfl (by first | exact bI_rng _ | exact ⟨by omega, by omega⟩) (by first | exact bI_rng _ | exact ⟨by omega, by omega⟩) (fun c116 => ?_) (fun c116 => ?_)
                  · dsimp only [cmpI] at c116
                    refine AW.go 6 (pc' := 162) rfl ?_
                    refine AW.putf (pn := 165) rfl rfl flX4_68 (by first | assumption | exact set_self (by first | assumption | exact set_self (by first | assumption | exact set_self (by assumption) | exact set_ne (by first | assumption | decide | omega) (by assumption)) | exact set_ne (by first | assumption | decide | omega) (by first | assumption | exact set_self (by assumption) | exact set_ne (by first | assumption | decide | omega) (by assumption))) | exact set_ne (by first | assumption | decide | omega) (by first | assumption | exact set_self (by first | assumption | exact set_self (by assumption) | exact set_ne (by first | assumption | decide | omega) (by assumption)) | exact set_ne (by first | assumption | decide | omega) (by first | assumption | exact set_self (by assumption) | exact set_ne (by first | assumption | decide | omega) (by assumption)))) rfl (by first | trivial | exact bI_01 _ | exact Or.inl rfl | exact Or.inr rfl) ?_
                    refine AW.go 2 (pc' := 167) rfl ?_
                    refine AW.getf (pn := 170) rfl rfl flX4_52 (by first | assumption | exact set_self (by first | assumption | exact set_self (by first | assumption | exact set_self (by assumption) | exact set_ne (by first | assumption | decide | omega) (by assumption)) | exact set_ne (by first | assumption | decide | omega) (by first | assumption | exact set_self (by assumption) | exact set_ne (by first | assumption | decide | omega) (by assumption))) | exact set_ne (by first | assumption | decide | omega) (by first | assumption | exact set_self (by first | assumption | exact set_self (by assumption) | exact set_ne (by first | assumption | decide | omega) (by assumption)) | exact set_ne (by first | assumption | decide | omega) (by first | assumption | exact set_self (by assumption) | exact set_ne (by first | assumption | decide | omega) (by assumption)))) rfl ?_
                    refine AW.bi (tgt := 177) (pn := 173) rfl (by decide) rfl (by first | exact bI_rng _ | exact ⟨by omega, by omega⟩) (by first | exact bI_rng _ | exact ⟨by omega, by omega⟩) (fun c170 => ?_) (fun c170 => ?_)
                    · dsimp only [cmpI] at c170
                      refine AW.go 1 (pc' := 179) rfl ?_
                      refine AW.ret rfl rfl (Nat.le_refl _) (Nat.le_refl _) ?_
                      first
                        | (exfalso; omega)
                        | (have hk : ksg (sga sg pm) = 1 := by omega
                           have hF := ff_at (sga sg pm) pm 1 hk
                           have hN1 := fn_at1 (sga sg pm) pm 1 hk
                           have hN2 := fn_at2 (sga sg pm) pm 1 hk
                           refine ⟨congrArg some ?_, _, rfl, fun q => ?_⟩ <;> omega)
                        | (have hk : ksg (sga sg pm) = 2 := by omega
                           have hF := ff_at (sga sg pm) pm 2 hk
                           have hN1 := fn_at1 (sga sg pm) pm 2 hk
                           have hN2 := fn_at2 (sga sg pm) pm 2 hk
                           refine ⟨congrArg some ?_, _, rfl, fun q => ?_⟩ <;> omega)
                    · dsimp only [cmpI] at c170
                      refine AW.go 2 (pc' := 179) rfl ?_
                      refine AW.ret rfl rfl (Nat.le_refl _) (Nat.le_refl _) ?_
                      first
                        | (exfalso; omega)
                        | (have hk : ksg (sga sg pm) = 1 := by omega
                           have hF := ff_at (sga sg pm) pm 1 hk
                           have hN1 := fn_at1 (sga sg pm) pm 1 hk
                           have hN2 := fn_at2 (sga sg pm) pm 1 hk
                           refine ⟨congrArg some ?_, _, rfl, fun q => ?_⟩ <;> omega)
                        | (have hk : ksg (sga sg pm) = 2 := by omega
                           have hF := ff_at (sga sg pm) pm 2 hk
                           have hN1 := fn_at1 (sga sg pm) pm 2 hk
                           have hN2 := fn_at2 (sga sg pm) pm 2 hk
                           refine ⟨congrArg some ?_, _, rfl, fun q => ?_⟩ <;> omega)
                  · dsimp only [cmpI] at c116
                    refine AW.go 3 (pc' := 123) rfl ?_
                    refine AW.callVF (pn := 126) rfl rfl mlX4_64 (by first | assumption | exact set_self (by first | assumption | exact set_self (by first | assumption | exact set_self (by assumption) | exact set_ne (by first | assumption | decide | omega) (by assumption)) | exact set_ne (by first | assumption | decide | omega) (by first | assumption | exact set_self (by assumption) | exact set_ne (by first | assumption | decide | omega) (by assumption))) | exact set_ne (by first | assumption | decide | omega) (by first | assumption | exact set_self (by first | assumption | exact set_self (by assumption) | exact set_ne (by first | assumption | decide | omega) (by assumption)) | exact set_ne (by first | assumption | decide | omega) (by first | assumption | exact set_self (by assumption) | exact set_ne (by first | assumption | decide | omega) (by assumption)))) (c_X4_isSign (d - 1) (by omega) _ _ _ _ _ _ (by first | assumption | exact set_self (by first | assumption | exact set_self (by first | assumption | exact set_self (by assumption) | exact set_ne (by first | assumption | decide | omega) (by assumption)) | exact set_ne (by first | assumption | decide | omega) (by first | assumption | exact set_self (by assumption) | exact set_ne (by first | assumption | decide | omega) (by assumption))) | exact set_ne (by first | assumption | decide | omega) (by first | assumption | exact set_self (by first | assumption | exact set_self (by assumption) | exact set_ne (by first | assumption | decide | omega) (by assumption)) | exact set_ne (by first | assumption | decide | omega) (by first | assumption | exact set_self (by assumption) | exact set_ne (by first | assumption | decide | omega) (by assumption)))) (by omega) _ (by first | assumption | exact set_self (by first | assumption | exact set_self (by first | assumption | exact set_self (by assumption) | exact set_ne (by first | assumption | decide | omega) (by assumption)) | exact set_ne (by first | assumption | decide | omega) (by first | assumption | exact set_self (by assumption) | exact set_ne (by first | assumption | decide | omega) (by assumption))) | exact set_ne (by first | assumption | decide | omega) (by first | assumption | exact set_self (by first | assumption | exact set_self (by assumption) | exact set_ne (by first | assumption | decide | omega) (by assumption)) | exact set_ne (by first | assumption | decide | omega) (by first | assumption | exact set_self (by assumption) | exact set_ne (by first | assumption | decide | omega) (by assumption)))) (by assumption) _ _ (by omega) (by omega)) rfl rfl (Nat.le_of_ble_eq_true rfl) ⟨by show d - 1 + 1 ≤ d; omega, by show 40 * (d - 1 + 1) ≤ 40 * d; omega⟩ ⟨Nat.zero_le _, Nat.zero_le _⟩ ?_
                    refine AW.bnz (tgt := 139) (pn := 129) rfl (by decide) rfl (fun c126 => ?_) (fun c126 => ?_)
                    · refine AW.go 2 (pc' := 142) rfl ?_
                      refine AW.getf (pn := 145) rfl rfl flX4_16 (by first | assumption | exact set_self (by first | assumption | exact set_self (by first | assumption | exact set_self (by assumption) | exact set_ne (by first | assumption | decide | omega) (by assumption)) | exact set_ne (by first | assumption | decide | omega) (by first | assumption | exact set_self (by assumption) | exact set_ne (by first | assumption | decide | omega) (by assumption))) | exact set_ne (by first | assumption | decide | omega) (by first | assumption | exact set_self (by first | assumption | exact set_self (by assumption) | exact set_ne (by first | assumption | decide | omega) (by assumption)) | exact set_ne (by first | assumption | decide | omega) (by first | assumption | exact set_self (by assumption) | exact set_ne (by first | assumption | decide | omega) (by assumption)))) rfl ?_
                      refine AW.go 1 (pc' := 146) rfl ?_
                      refine AW.iald (pn := 147) rfl rfl (by first | assumption | exact set_self (by first | assumption | exact set_self (by first | assumption | exact set_self (by assumption) | exact set_ne (by first | assumption | decide | omega) (by assumption)) | exact set_ne (by first | assumption | decide | omega) (by first | assumption | exact set_self (by assumption) | exact set_ne (by first | assumption | decide | omega) (by assumption))) | exact set_ne (by first | assumption | decide | omega) (by first | assumption | exact set_self (by first | assumption | exact set_self (by assumption) | exact set_ne (by first | assumption | decide | omega) (by assumption)) | exact set_ne (by first | assumption | decide | omega) (by first | assumption | exact set_self (by assumption) | exact set_ne (by first | assumption | decide | omega) (by assumption)))) (by decide) (by omega) (by omega) ?_
                      refine AW.go 11 (pc' := 162) rfl ?_
                      refine AW.putf (pn := 165) rfl rfl flX4_68 (by first | assumption | exact set_self (by first | assumption | exact set_self (by first | assumption | exact set_self (by assumption) | exact set_ne (by first | assumption | decide | omega) (by assumption)) | exact set_ne (by first | assumption | decide | omega) (by first | assumption | exact set_self (by assumption) | exact set_ne (by first | assumption | decide | omega) (by assumption))) | exact set_ne (by first | assumption | decide | omega) (by first | assumption | exact set_self (by first | assumption | exact set_self (by assumption) | exact set_ne (by first | assumption | decide | omega) (by assumption)) | exact set_ne (by first | assumption | decide | omega) (by first | assumption | exact set_self (by assumption) | exact set_ne (by first | assumption | decide | omega) (by assumption)))) rfl (by first | trivial | exact bI_01 _ | exact Or.inl rfl | exact Or.inr rfl) ?_
                      refine AW.go 2 (pc' := 167) rfl ?_
                      refine AW.getf (pn := 170) rfl rfl flX4_52 (by first | assumption | exact set_self (by first | assumption | exact set_self (by first | assumption | exact set_self (by assumption) | exact set_ne (by first | assumption | decide | omega) (by assumption)) | exact set_ne (by first | assumption | decide | omega) (by first | assumption | exact set_self (by assumption) | exact set_ne (by first | assumption | decide | omega) (by assumption))) | exact set_ne (by first | assumption | decide | omega) (by first | assumption | exact set_self (by first | assumption | exact set_self (by assumption) | exact set_ne (by first | assumption | decide | omega) (by assumption)) | exact set_ne (by first | assumption | decide | omega) (by first | assumption | exact set_self (by assumption) | exact set_ne (by first | assumption | decide | omega) (by assumption)))) rfl ?_
                      refine AW.bi (tgt := 177) (pn := 173) rfl (by decide) rfl (by first | exact bI_rng _ | exact ⟨by omega, by omega⟩) (by first | exact bI_rng _ | exact ⟨by omega, by omega⟩) (fun c170 => ?_) (fun c170 => ?_)
                      · dsimp only [cmpI] at c170
                        refine AW.go 1 (pc' := 179) rfl ?_
                        refine AW.ret rfl rfl (Nat.le_refl _) (Nat.le_refl _) ?_
                        first
                          | (exfalso; omega)
                          | (have hk : ksg (sga sg pm) = 1 := by omega
                             have hF := ff_at (sga sg pm) pm 1 hk
                             have hN1 := fn_at1 (sga sg pm) pm 1 hk
                             have hN2 := fn_at2 (sga sg pm) pm 1 hk
                             refine ⟨congrArg some ?_, _, rfl, fun q => ?_⟩ <;> omega)
                          | (have hk : ksg (sga sg pm) = 2 := by omega
                             have hF := ff_at (sga sg pm) pm 2 hk
                             have hN1 := fn_at1 (sga sg pm) pm 2 hk
                             have hN2 := fn_at2 (sga sg pm) pm 2 hk
                             refine ⟨congrArg some ?_, _, rfl, fun q => ?_⟩ <;> omega)
                      · dsimp only [cmpI] at c170
                        refine AW.go 2 (pc' := 179) rfl ?_
                        refine AW.ret rfl rfl (Nat.le_refl _) (Nat.le_refl _) ?_
                        first
                          | (exfalso; omega)
                          | (have hk : ksg (sga sg pm) = 1 := by omega
                             have hF := ff_at (sga sg pm) pm 1 hk
                             have hN1 := fn_at1 (sga sg pm) pm 1 hk
                             have hN2 := fn_at2 (sga sg pm) pm 1 hk
                             refine ⟨congrArg some ?_, _, rfl, fun q => ?_⟩ <;> omega)
                          | (have hk : ksg (sga sg pm) = 2 := by omega
                             have hF := ff_at (sga sg pm) pm 2 hk
                             have hN1 := fn_at1 (sga sg pm) pm 2 hk
                             have hN2 := fn_at2 (sga sg pm) pm 2 hk
                             refine ⟨congrArg some ?_, _, rfl, fun q => ?_⟩ <;> omega)
                    · refine AW.go 3 (pc' := 133) rfl ?_
                      refine AW.callVF (pn := 136) rfl rfl mlX4_64 (by first | assumption | exact set_self (by first | assumption | exact set_self (by first | assumption | exact set_self (by assumption) | exact set_ne (by first | assumption | decide | omega) (by assumption)) | exact set_ne (by first | assumption | decide | omega) (by first | assumption | exact set_self (by assumption) | exact set_ne (by first | assumption | decide | omega) (by assumption))) | exact set_ne (by first | assumption | decide | omega) (by first | assumption | exact set_self (by first | assumption | exact set_self (by assumption) | exact set_ne (by first | assumption | decide | omega) (by assumption)) | exact set_ne (by first | assumption | decide | omega) (by first | assumption | exact set_self (by assumption) | exact set_ne (by first | assumption | decide | omega) (by assumption)))) (c_X4_isSign (d - 1) (by omega) _ _ _ _ _ _ (by first | assumption | exact set_self (by first | assumption | exact set_self (by first | assumption | exact set_self (by assumption) | exact set_ne (by first | assumption | decide | omega) (by assumption)) | exact set_ne (by first | assumption | decide | omega) (by first | assumption | exact set_self (by assumption) | exact set_ne (by first | assumption | decide | omega) (by assumption))) | exact set_ne (by first | assumption | decide | omega) (by first | assumption | exact set_self (by first | assumption | exact set_self (by assumption) | exact set_ne (by first | assumption | decide | omega) (by assumption)) | exact set_ne (by first | assumption | decide | omega) (by first | assumption | exact set_self (by assumption) | exact set_ne (by first | assumption | decide | omega) (by assumption)))) (by omega) _ (by first | assumption | exact set_self (by first | assumption | exact set_self (by first | assumption | exact set_self (by assumption) | exact set_ne (by first | assumption | decide | omega) (by assumption)) | exact set_ne (by first | assumption | decide | omega) (by first | assumption | exact set_self (by assumption) | exact set_ne (by first | assumption | decide | omega) (by assumption))) | exact set_ne (by first | assumption | decide | omega) (by first | assumption | exact set_self (by first | assumption | exact set_self (by assumption) | exact set_ne (by first | assumption | decide | omega) (by assumption)) | exact set_ne (by first | assumption | decide | omega) (by first | assumption | exact set_self (by assumption) | exact set_ne (by first | assumption | decide | omega) (by assumption)))) (by assumption) _ _ (by omega) (by omega)) rfl rfl (Nat.le_of_ble_eq_true rfl) ⟨by show d - 1 + 1 ≤ d; omega, by show 40 * (d - 1 + 1) ≤ 40 * d; omega⟩ ⟨Nat.zero_le _, Nat.zero_le _⟩ ?_
                      refine AW.bz (tgt := 155) (pn := 139) rfl (by decide) rfl (fun c136 => ?_) (fun c136 => ?_)
                      · refine AW.go 6 (pc' := 162) rfl ?_
                        refine AW.putf (pn := 165) rfl rfl flX4_68 (by first | assumption | exact set_self (by first | assumption | exact set_self (by first | assumption | exact set_self (by assumption) | exact set_ne (by first | assumption | decide | omega) (by assumption)) | exact set_ne (by first | assumption | decide | omega) (by first | assumption | exact set_self (by assumption) | exact set_ne (by first | assumption | decide | omega) (by assumption))) | exact set_ne (by first | assumption | decide | omega) (by first | assumption | exact set_self (by first | assumption | exact set_self (by assumption) | exact set_ne (by first | assumption | decide | omega) (by assumption)) | exact set_ne (by first | assumption | decide | omega) (by first | assumption | exact set_self (by assumption) | exact set_ne (by first | assumption | decide | omega) (by assumption)))) rfl (by first | trivial | exact bI_01 _ | exact Or.inl rfl | exact Or.inr rfl) ?_
                        refine AW.go 2 (pc' := 167) rfl ?_
                        refine AW.getf (pn := 170) rfl rfl flX4_52 (by first | assumption | exact set_self (by first | assumption | exact set_self (by first | assumption | exact set_self (by assumption) | exact set_ne (by first | assumption | decide | omega) (by assumption)) | exact set_ne (by first | assumption | decide | omega) (by first | assumption | exact set_self (by assumption) | exact set_ne (by first | assumption | decide | omega) (by assumption))) | exact set_ne (by first | assumption | decide | omega) (by first | assumption | exact set_self (by first | assumption | exact set_self (by assumption) | exact set_ne (by first | assumption | decide | omega) (by assumption)) | exact set_ne (by first | assumption | decide | omega) (by first | assumption | exact set_self (by assumption) | exact set_ne (by first | assumption | decide | omega) (by assumption)))) rfl ?_
                        refine AW.bi (tgt := 177) (pn := 173) rfl (by decide) rfl (by first | exact bI_rng _ | exact ⟨by omega, by omega⟩) (by first | exact bI_rng _ | exact ⟨by omega, by omega⟩) (fun c170 => ?_) (fun c170 => ?_)
                        · dsimp only [cmpI] at c170
                          refine AW.go 1 (pc' := 179) rfl ?_
                          refine AW.ret rfl rfl (Nat.le_refl _) (Nat.le_refl _) ?_
                          first
                            | (exfalso; omega)
                            | (have hk : ksg (sga sg pm) = 1 := by omega
                               have hF := ff_at (sga sg pm) pm 1 hk
                               have hN1 := fn_at1 (sga sg pm) pm 1 hk
                               have hN2 := fn_at2 (sga sg pm) pm 1 hk
                               refine ⟨congrArg some ?_, _, rfl, fun q => ?_⟩ <;> omega)
                            | (have hk : ksg (sga sg pm) = 2 := by omega
                               have hF := ff_at (sga sg pm) pm 2 hk
                               have hN1 := fn_at1 (sga sg pm) pm 2 hk
                               have hN2 := fn_at2 (sga sg pm) pm 2 hk
                               refine ⟨congrArg some ?_, _, rfl, fun q => ?_⟩ <;> omega)
                        · dsimp only [cmpI] at c170
                          refine AW.go 2 (pc' := 179) rfl ?_
                          refine AW.ret rfl rfl (Nat.le_refl _) (Nat.le_refl _) ?_
                          first
                            | (exfalso; omega)
                            | (have hk : ksg (sga sg pm) = 1 := by omega
                               have hF := ff_at (sga sg pm) pm 1 hk
                               have hN1 := fn_at1 (sga sg pm) pm 1 hk
                               have hN2 := fn_at2 (sga sg pm) pm 1 hk
                               refine ⟨congrArg some ?_, _, rfl, fun q => ?_⟩ <;> omega)
                            | (have hk : ksg (sga sg pm) = 2 := by omega
                               have hF := ff_at (sga sg pm) pm 2 hk
                               have hN1 := fn_at1 (sga sg pm) pm 2 hk
                               have hN2 := fn_at2 (sga sg pm) pm 2 hk
                               refine ⟨congrArg some ?_, _, rfl, fun q => ?_⟩ <;> omega)
                      · refine AW.go 2 (pc' := 142) rfl ?_
                        refine AW.getf (pn := 145) rfl rfl flX4_16 (by first | assumption | exact set_self (by first | assumption | exact set_self (by first | assumption | exact set_self (by assumption) | exact set_ne (by first | assumption | decide | omega) (by assumption)) | exact set_ne (by first | assumption | decide | omega) (by first | assumption | exact set_self (by assumption) | exact set_ne (by first | assumption | decide | omega) (by assumption))) | exact set_ne (by first | assumption | decide | omega) (by first | assumption | exact set_self (by first | assumption | exact set_self (by assumption) | exact set_ne (by first | assumption | decide | omega) (by assumption)) | exact set_ne (by first | assumption | decide | omega) (by first | assumption | exact set_self (by assumption) | exact set_ne (by first | assumption | decide | omega) (by assumption)))) rfl ?_
                        refine AW.go 1 (pc' := 146) rfl ?_
                        refine AW.iald (pn := 147) rfl rfl (by first | assumption | exact set_self (by first | assumption | exact set_self (by first | assumption | exact set_self (by assumption) | exact set_ne (by first | assumption | decide | omega) (by assumption)) | exact set_ne (by first | assumption | decide | omega) (by first | assumption | exact set_self (by assumption) | exact set_ne (by first | assumption | decide | omega) (by assumption))) | exact set_ne (by first | assumption | decide | omega) (by first | assumption | exact set_self (by first | assumption | exact set_self (by assumption) | exact set_ne (by first | assumption | decide | omega) (by assumption)) | exact set_ne (by first | assumption | decide | omega) (by first | assumption | exact set_self (by assumption) | exact set_ne (by first | assumption | decide | omega) (by assumption)))) (by decide) (by omega) (by omega) ?_
                        refine AW.go 11 (pc' := 162) rfl ?_
                        refine AW.putf (pn := 165) rfl rfl flX4_68 (by first | assumption | exact set_self (by first | assumption | exact set_self (by first | assumption | exact set_self (by assumption) | exact set_ne (by first | assumption | decide | omega) (by assumption)) | exact set_ne (by first | assumption | decide | omega) (by first | assumption | exact set_self (by assumption) | exact set_ne (by first | assumption | decide | omega) (by assumption))) | exact set_ne (by first | assumption | decide | omega) (by first | assumption | exact set_self (by first | assumption | exact set_self (by assumption) | exact set_ne (by first | assumption | decide | omega) (by assumption)) | exact set_ne (by first | assumption | decide | omega) (by first | assumption | exact set_self (by assumption) | exact set_ne (by first | assumption | decide | omega) (by assumption)))) rfl (by first | trivial | exact bI_01 _ | exact Or.inl rfl | exact Or.inr rfl) ?_
                        refine AW.go 2 (pc' := 167) rfl ?_
                        refine AW.getf (pn := 170) rfl rfl flX4_52 (by first | assumption | exact set_self (by first | assumption | exact set_self (by first | assumption | exact set_self (by assumption) | exact set_ne (by first | assumption | decide | omega) (by assumption)) | exact set_ne (by first | assumption | decide | omega) (by first | assumption | exact set_self (by assumption) | exact set_ne (by first | assumption | decide | omega) (by assumption))) | exact set_ne (by first | assumption | decide | omega) (by first | assumption | exact set_self (by first | assumption | exact set_self (by assumption) | exact set_ne (by first | assumption | decide | omega) (by assumption)) | exact set_ne (by first | assumption | decide | omega) (by first | assumption | exact set_self (by assumption) | exact set_ne (by first | assumption | decide | omega) (by assumption)))) rfl ?_
                        refine AW.bi (tgt := 177) (pn := 173) rfl (by decide) rfl (by first | exact bI_rng _ | exact ⟨by omega, by omega⟩) (by first | exact bI_rng _ | exact ⟨by omega, by omega⟩) (fun c170 => ?_) (fun c170 => ?_)
                        · dsimp only [cmpI] at c170
                          refine AW.go 1 (pc' := 179) rfl ?_
                          refine AW.ret rfl rfl (Nat.le_refl _) (Nat.le_refl _) ?_
                          first
                            | (exfalso; omega)
                            | (have hk : ksg (sga sg pm) = 1 := by omega
                               have hF := ff_at (sga sg pm) pm 1 hk
                               have hN1 := fn_at1 (sga sg pm) pm 1 hk
                               have hN2 := fn_at2 (sga sg pm) pm 1 hk
                               refine ⟨congrArg some ?_, _, rfl, fun q => ?_⟩ <;> omega)
                            | (have hk : ksg (sga sg pm) = 2 := by omega
                               have hF := ff_at (sga sg pm) pm 2 hk
                               have hN1 := fn_at1 (sga sg pm) pm 2 hk
                               have hN2 := fn_at2 (sga sg pm) pm 2 hk
                               refine ⟨congrArg some ?_, _, rfl, fun q => ?_⟩ <;> omega)
                        · dsimp only [cmpI] at c170
                          refine AW.go 2 (pc' := 179) rfl ?_
                          refine AW.ret rfl rfl (Nat.le_refl _) (Nat.le_refl _) ?_
                          first
                            | (exfalso; omega)
                            | (have hk : ksg (sga sg pm) = 1 := by omega
                               have hF := ff_at (sga sg pm) pm 1 hk
                               have hN1 := fn_at1 (sga sg pm) pm 1 hk
                               have hN2 := fn_at2 (sga sg pm) pm 1 hk
                               refine ⟨congrArg some ?_, _, rfl, fun q => ?_⟩ <;> omega)
                            | (have hk : ksg (sga sg pm) = 2 := by omega
                               have hF := ff_at (sga sg pm) pm 2 hk
                               have hN1 := fn_at1 (sga sg pm) pm 2 hk
                               have hN2 := fn_at2 (sga sg pm) pm 2 hk
                               refine ⟨congrArg some ?_, _, rfl, fun q => ?_⟩ <;> omega)
                · refine AW.go 1 (pc' := 100) rfl ?_
                  refine AW.ret rfl rfl (Nat.le_refl _) (Nat.le_refl _) ?_
                  first
                    | (exfalso; omega)
                    | (have hk : ksg (sga sg pm) = 1 := by omega
                       have hF := ff_at (sga sg pm) pm 1 hk
                       have hN1 := fn_at1 (sga sg pm) pm 1 hk
                       have hN2 := fn_at2 (sga sg pm) pm 1 hk
                       refine ⟨congrArg some ?_, rf, (set_same hO).symm, fun q => ?_⟩ <;> omega)
                    | (have hk : ksg (sga sg pm) = 2 := by omega
                       have hF := ff_at (sga sg pm) pm 2 hk
                       have hN1 := fn_at1 (sga sg pm) pm 2 hk
                       have hN2 := fn_at2 (sga sg pm) pm 2 hk
                       refine ⟨congrArg some ?_, rf, (set_same hO).symm, fun q => ?_⟩ <;> omega)
        · dsimp only [cmpI] at c46
          refine AW.go 1 (pc' := 50) rfl ?_
          refine AW.ret rfl rfl (Nat.le_refl _) (Nat.le_refl _) ?_
          first
            | (exfalso; omega)
            | (have hk : ksg (sga sg pm) = 0 := by omega
               have hF := ff_at (sga sg pm) pm 0 hk
               refine ⟨congrArg some ?_, rf, (set_same hO).symm, fun q => ?_⟩ <;> omega)
      · refine AW.go 4 (pc' := 46) rfl ?_
        refine AW.br (tgt := 51) (pn := 49) rfl (by decide) rfl (by first | exact bI_rng _ | exact ⟨by omega, by omega⟩) (fun c46 => ?_) (fun c46 => ?_)
        · dsimp only [cmpI] at c46
          refine AW.go 4 (pc' := 55) rfl ?_
          refine AW.bi (tgt := 72) (pn := 58) rfl (by decide) rfl (by first | exact bI_rng _ | exact ⟨by omega, by omega⟩) (by first | exact bI_rng _ | exact ⟨by omega, by omega⟩) (fun c55 => ?_) (fun c55 => ?_)
          · dsimp only [cmpI] at c55
            refine AW.go 2 (pc' := 74) rfl ?_
            refine AW.getf (pn := 77) rfl rfl flX4_52 (by first | assumption | exact set_self (by first | assumption | exact set_self (by first | assumption | exact set_self (by assumption) | exact set_ne (by first | assumption | decide | omega) (by assumption)) | exact set_ne (by first | assumption | decide | omega) (by first | assumption | exact set_self (by assumption) | exact set_ne (by first | assumption | decide | omega) (by assumption))) | exact set_ne (by first | assumption | decide | omega) (by first | assumption | exact set_self (by first | assumption | exact set_self (by assumption) | exact set_ne (by first | assumption | decide | omega) (by assumption)) | exact set_ne (by first | assumption | decide | omega) (by first | assumption | exact set_self (by assumption) | exact set_ne (by first | assumption | decide | omega) (by assumption)))) rfl ?_
            refine AW.bi (tgt := 99) (pn := 80) rfl (by decide) rfl (by first | exact bI_rng _ | exact ⟨by omega, by omega⟩) (by first | exact bI_rng _ | exact ⟨by omega, by omega⟩) (fun c77 => ?_) (fun c77 => ?_)
            · dsimp only [cmpI] at c77
              refine AW.go 1 (pc' := 100) rfl ?_
              refine AW.ret rfl rfl (Nat.le_refl _) (Nat.le_refl _) ?_
              first
                | (exfalso; omega)
                | (have hk : ksg (sga sg pm) = 1 := by omega
                   have hF := ff_at (sga sg pm) pm 1 hk
                   have hN1 := fn_at1 (sga sg pm) pm 1 hk
                   have hN2 := fn_at2 (sga sg pm) pm 1 hk
                   refine ⟨congrArg some ?_, rf, (set_same hO).symm, fun q => ?_⟩ <;> omega)
                | (have hk : ksg (sga sg pm) = 2 := by omega
                   have hF := ff_at (sga sg pm) pm 2 hk
                   have hN1 := fn_at1 (sga sg pm) pm 2 hk
                   have hN2 := fn_at2 (sga sg pm) pm 2 hk
                   refine ⟨congrArg some ?_, rf, (set_same hO).symm, fun q => ?_⟩ <;> omega)
            · dsimp only [cmpI] at c77
              refine AW.go 1 (pc' := 81) rfl ?_
              refine AW.getf (pn := 84) rfl rfl flX4_16 (by first | assumption | exact set_self (by first | assumption | exact set_self (by first | assumption | exact set_self (by assumption) | exact set_ne (by first | assumption | decide | omega) (by assumption)) | exact set_ne (by first | assumption | decide | omega) (by first | assumption | exact set_self (by assumption) | exact set_ne (by first | assumption | decide | omega) (by assumption))) | exact set_ne (by first | assumption | decide | omega) (by first | assumption | exact set_self (by first | assumption | exact set_self (by assumption) | exact set_ne (by first | assumption | decide | omega) (by assumption)) | exact set_ne (by first | assumption | decide | omega) (by first | assumption | exact set_self (by assumption) | exact set_ne (by first | assumption | decide | omega) (by assumption)))) rfl ?_
              refine AW.go 1 (pc' := 85) rfl ?_
              refine AW.iald (pn := 86) rfl rfl (by first | assumption | exact set_self (by first | assumption | exact set_self (by first | assumption | exact set_self (by assumption) | exact set_ne (by first | assumption | decide | omega) (by assumption)) | exact set_ne (by first | assumption | decide | omega) (by first | assumption | exact set_self (by assumption) | exact set_ne (by first | assumption | decide | omega) (by assumption))) | exact set_ne (by first | assumption | decide | omega) (by first | assumption | exact set_self (by first | assumption | exact set_self (by assumption) | exact set_ne (by first | assumption | decide | omega) (by assumption)) | exact set_ne (by first | assumption | decide | omega) (by first | assumption | exact set_self (by assumption) | exact set_ne (by first | assumption | decide | omega) (by assumption)))) (by decide) (by omega) (by omega) ?_
              refine AW.i2l (pn := 87) rfl rfl (by first | exact bI_rng _ | exact ⟨by omega, by omega⟩) ?_
              refine AW.ldc2 (pn := 90) rfl rfl clX4_56 ?_
              refine AW.ldc2 (pn := 93) rfl rfl clX4_58 ?_
              refine AW.callSF (pn := 96) rfl rfl mlX4_40 (c_X4_in (d - 1) (by omega) _ _ _ _ (by omega) (by omega) (by omega)) rfl rfl (Nat.le_of_ble_eq_true rfl) ⟨by show d - 1 + 1 ≤ d; omega, by show 40 * (d - 1 + 1) ≤ 40 * d; omega⟩ ⟨Nat.zero_le _, Nat.zero_le _⟩ ?_
              refine AW.bnz (tgt := 101) (pn := 99) rfl (by decide) rfl (fun c96 => ?_) (fun c96 => ?_)
              · refine AW.go 1 (pc' := 102) rfl ?_
                refine AW.getf (pn := 105) rfl rfl flX4_16 (by first | assumption | exact set_self (by first | assumption | exact set_self (by first | assumption | exact set_self (by assumption) | exact set_ne (by first | assumption | decide | omega) (by assumption)) | exact set_ne (by first | assumption | decide | omega) (by first | assumption | exact set_self (by assumption) | exact set_ne (by first | assumption | decide | omega) (by assumption))) | exact set_ne (by first | assumption | decide | omega) (by first | assumption | exact set_self (by first | assumption | exact set_self (by assumption) | exact set_ne (by first | assumption | decide | omega) (by assumption)) | exact set_ne (by first | assumption | decide | omega) (by first | assumption | exact set_self (by assumption) | exact set_ne (by first | assumption | decide | omega) (by assumption)))) rfl ?_
                refine AW.go 1 (pc' := 106) rfl ?_
                refine AW.iald (pn := 107) rfl rfl (by first | assumption | exact set_self (by first | assumption | exact set_self (by first | assumption | exact set_self (by assumption) | exact set_ne (by first | assumption | decide | omega) (by assumption)) | exact set_ne (by first | assumption | decide | omega) (by first | assumption | exact set_self (by assumption) | exact set_ne (by first | assumption | decide | omega) (by assumption))) | exact set_ne (by first | assumption | decide | omega) (by first | assumption | exact set_self (by first | assumption | exact set_self (by assumption) | exact set_ne (by first | assumption | decide | omega) (by assumption)) | exact set_ne (by first | assumption | decide | omega) (by first | assumption | exact set_self (by assumption) | exact set_ne (by first | assumption | decide | omega) (by assumption)))) (by decide) (by omega) (by omega) ?_
                refine AW.go 6 (pc' := 116) rfl ?_
                refine AW.bi (tgt := 155) (pn := 119) rfl (by decide) rfl (by first | exact bI_rng _ | exact ⟨by omega, by omega⟩) (by first | exact bI_rng _ | exact ⟨by omega, by omega⟩) (fun c116 => ?_) (fun c116 => ?_)
                · dsimp only [cmpI] at c116
                  refine AW.go 6 (pc' := 162) rfl ?_
                  refine AW.putf (pn := 165) rfl rfl flX4_68 (by first | assumption | exact set_self (by first | assumption | exact set_self (by first | assumption | exact set_self (by assumption) | exact set_ne (by first | assumption | decide | omega) (by assumption)) | exact set_ne (by first | assumption | decide | omega) (by first | assumption | exact set_self (by assumption) | exact set_ne (by first | assumption | decide | omega) (by assumption))) | exact set_ne (by first | assumption | decide | omega) (by first | assumption | exact set_self (by first | assumption | exact set_self (by assumption) | exact set_ne (by first | assumption | decide | omega) (by assumption)) | exact set_ne (by first | assumption | decide | omega) (by first | assumption | exact set_self (by assumption) | exact set_ne (by first | assumption | decide | omega) (by assumption)))) rfl (by first | trivial | exact bI_01 _ | exact Or.inl rfl | exact Or.inr rfl) ?_
                  refine AW.go 2 (pc' := 167) rfl ?_
                  refine AW.getf (pn := 170) rfl rfl flX4_52 (by first | assumption | exact set_self (by first | assumption | exact set_self (by first | assumption | exact set_self (by assumption) | exact set_ne (by first | assumption | decide | omega) (by assumption)) | exact set_ne (by first | assumption | decide | omega) (by first | assumption | exact set_self (by assumption) | exact set_ne (by first | assumption | decide | omega) (by assumption))) | exact set_ne (by first | assumption | decide | omega) (by first | assumption | exact set_self (by first | assumption | exact set_self (by assumption) | exact set_ne (by first | assumption | decide | omega) (by assumption)) | exact set_ne (by first | assumption | decide | omega) (by first | assumption | exact set_self (by assumption) | exact set_ne (by first | assumption | decide | omega) (by assumption)))) rfl ?_
                  refine AW.bi (tgt := 177) (pn := 173) rfl (by decide) rfl (by first | exact bI_rng _ | exact ⟨by omega, by omega⟩) (by first | exact bI_rng _ | exact ⟨by omega, by omega⟩) (fun c170 => ?_) (fun c170 => ?_)
                  · dsimp only [cmpI] at c170
                    refine AW.go 1 (pc' := 179) rfl ?_
                    refine AW.ret rfl rfl (Nat.le_refl _) (Nat.le_refl _) ?_
                    first
                      | (exfalso; omega)
                      | (have hk : ksg (sga sg pm) = 1 := by omega
                         have hF := ff_at (sga sg pm) pm 1 hk
                         have hN1 := fn_at1 (sga sg pm) pm 1 hk
                         have hN2 := fn_at2 (sga sg pm) pm 1 hk
                         refine ⟨congrArg some ?_, _, rfl, fun q => ?_⟩ <;> omega)
                      | (have hk : ksg (sga sg pm) = 2 := by omega
                         have hF := ff_at (sga sg pm) pm 2 hk
                         have hN1 := fn_at1 (sga sg pm) pm 2 hk
                         have hN2 := fn_at2 (sga sg pm) pm 2 hk
                         refine ⟨congrArg some ?_, _, rfl, fun q => ?_⟩ <;> omega)
                  · dsimp only [cmpI] at c170
                    refine AW.go 2 (pc' := 179) rfl ?_
                    refine AW.ret rfl rfl (Nat.le_refl _) (Nat.le_refl _) ?_
                    first
                      | (exfalso; omega)
                      | (have hk : ksg (sga sg pm) = 1 := by omega
                         have hF := ff_at (sga sg pm) pm 1 hk
                         have hN1 := fn_at1 (sga sg pm) pm 1 hk
                         have hN2 := fn_at2 (sga sg pm) pm 1 hk
                         refine ⟨congrArg some ?_, _, rfl, fun q => ?_⟩ <;> omega)
                      | (have hk : ksg (sga sg pm) = 2 := by omega
                         have hF := ff_at (sga sg pm) pm 2 hk
                         have hN1 := fn_at1 (sga sg pm) pm 2 hk
                         have hN2 := fn_at2 (sga sg pm) pm 2 hk
                         refine ⟨congrArg some ?_, _, rfl, fun q => ?_⟩ <;> omega)
                · dsimp only [cmpI] at c116
                  refine AW.go 3 (pc' := 123) rfl ?_
                  refine AW.callVF (pn := 126) rfl rfl mlX4_64 (by first | assumption | exact set_self (by first | assumption | exact set_self (by first | assumption | exact set_self (by assumption) | exact set_ne (by first | assumption | decide | omega) (by assumption)) | exact set_ne (by first | assumption | decide | omega) (by first | assumption | exact set_self (by assumption) | exact set_ne (by first | assumption | decide | omega) (by assumption))) | exact set_ne (by first | assumption | decide | omega) (by first | assumption | exact set_self (by first | assumption | exact set_self (by assumption) | exact set_ne (by first | assumption | decide | omega) (by assumption)) | exact set_ne (by first | assumption | decide | omega) (by first | assumption | exact set_self (by assumption) | exact set_ne (by first | assumption | decide | omega) (by assumption)))) (c_X4_isSign (d - 1) (by omega) _ _ _ _ _ _ (by first | assumption | exact set_self (by first | assumption | exact set_self (by first | assumption | exact set_self (by assumption) | exact set_ne (by first | assumption | decide | omega) (by assumption)) | exact set_ne (by first | assumption | decide | omega) (by first | assumption | exact set_self (by assumption) | exact set_ne (by first | assumption | decide | omega) (by assumption))) | exact set_ne (by first | assumption | decide | omega) (by first | assumption | exact set_self (by first | assumption | exact set_self (by assumption) | exact set_ne (by first | assumption | decide | omega) (by assumption)) | exact set_ne (by first | assumption | decide | omega) (by first | assumption | exact set_self (by assumption) | exact set_ne (by first | assumption | decide | omega) (by assumption)))) (by omega) _ (by first | assumption | exact set_self (by first | assumption | exact set_self (by first | assumption | exact set_self (by assumption) | exact set_ne (by first | assumption | decide | omega) (by assumption)) | exact set_ne (by first | assumption | decide | omega) (by first | assumption | exact set_self (by assumption) | exact set_ne (by first | assumption | decide | omega) (by assumption))) | exact set_ne (by first | assumption | decide | omega) (by first | assumption | exact set_self (by first | assumption | exact set_self (by assumption) | exact set_ne (by first | assumption | decide | omega) (by assumption)) | exact set_ne (by first | assumption | decide | omega) (by first | assumption | exact set_self (by assumption) | exact set_ne (by first | assumption | decide | omega) (by assumption)))) (by assumption) _ _ (by omega) (by omega)) rfl rfl (Nat.le_of_ble_eq_true rfl) ⟨by show d - 1 + 1 ≤ d; omega, by show 40 * (d - 1 + 1) ≤ 40 * d; omega⟩ ⟨Nat.zero_le _, Nat.zero_le _⟩ ?_
                  refine AW.bnz (tgt := 139) (pn := 129) rfl (by decide) rfl (fun c126 => ?_) (fun c126 => ?_)
                  · refine AW.go 2 (pc' := 142) rfl ?_
                    refine AW.getf (pn := 145) rfl rfl flX4_16 (by first | assumption | exact set_self (by first | assumption | exact set_self (by first | assumption | exact set_self (by assumption) | exact set_ne (by first | assumption | decide | omega) (by assumption)) | exact set_ne (by first | assumption | decide | omega) (by first | assumption | exact set_self (by assumption) | exact set_ne (by first | assumption | decide | omega) (by assumption))) | exact set_ne (by first | assumption | decide | omega) (by first | assumption | exact set_self (by first | assumption | exact set_self (by assumption) | exact set_ne (by first | assumption | decide | omega) (by assumption)) | exact set_ne (by first | assumption | decide | omega) (by first | assumption | exact set_self (by assumption) | exact set_ne (by first | assumption | decide | omega) (by assumption)))) rfl ?_
                    refine AW.go 1 (pc' := 146) rfl ?_
                    refine AW.iald (pn := 147) rfl rfl (by first | assumption | exact set_self (by first | assumption | exact set_self (by first | assumption | exact set_self (by assumption) | exact set_ne (by first | assumption | decide | omega) (by assumption)) | exact set_ne (by first | assumption | decide | omega) (by first | assumption | exact set_self (by assumption) | exact set_ne (by first | assumption | decide | omega) (by assumption))) | exact set_ne (by first | assumption | decide | omega) (by first | assumption | exact set_self (by first | assumption | exact set_self (by assumption) | exact set_ne (by first | assumption | decide | omega) (by assumption)) | exact set_ne (by first | assumption | decide | omega) (by first | assumption | exact set_self (by assumption) | exact set_ne (by first | assumption | decide | omega) (by assumption)))) (by decide) (by omega) (by omega) ?_
                    refine AW.go 11 (pc' := 162) rfl ?_
                    refine AW.putf (pn := 165) rfl rfl flX4_68 (by first | assumption | exact set_self (by first | assumption | exact set_self (by first | assumption | exact set_self (by assumption) | exact set_ne (by first | assumption | decide | omega) (by assumption)) | exact set_ne (by first | assumption | decide | omega) (by first | assumption | exact set_self (by assumption) | exact set_ne (by first | assumption | decide | omega) (by assumption))) | exact set_ne (by first | assumption | decide | omega) (by first | assumption | exact set_self (by first | assumption | exact set_self (by assumption) | exact set_ne (by first | assumption | decide | omega) (by assumption)) | exact set_ne (by first | assumption | decide | omega) (by first | assumption | exact set_self (by assumption) | exact set_ne (by first | assumption | decide | omega) (by assumption)))) rfl (by first | trivial | exact bI_01 _ | exact Or.inl rfl | exact Or.inr rfl) ?_
                    refine AW.go 2 (pc' := 167) rfl ?_
                    refine AW.getf (pn := 170) rfl rfl flX4_52 (by first | assumption | exact set_self (by first | assumption | exact set_self (by first | assumption | exact set_self (by assumption) | exact set_ne (by first | assumption | decide | omega) (by assumption)) | exact set_ne (by first | assumption | decide | omega) (by first | assumption | exact set_self (by assumption) | exact set_ne (by first | assumption | decide | omega) (by assumption))) | exact set_ne (by first | assumption | decide | omega) (by first | assumption | exact set_self (by first | assumption | exact set_self (by assumption) | exact set_ne (by first | assumption | decide | omega) (by assumption)) | exact set_ne (by first | assumption | decide | omega) (by first | assumption | exact set_self (by assumption) | exact set_ne (by first | assumption | decide | omega) (by assumption)))) rfl ?_
                    refine AW.bi (tgt := 177) (pn := 173) rfl (by decide) rfl (by first | exact bI_rng _ | exact ⟨by omega, by omega⟩) (by first | exact bI_rng _ | exact ⟨by omega, by omega⟩) (fun c170 => ?_) (fun c170 => ?_)
                    · dsimp only [cmpI] at c170
                      refine AW.go 1 (pc' := 179) rfl ?_
                      refine AW.ret rfl rfl (Nat.le_refl _) (Nat.le_refl _) ?_
                      first
                        | (exfalso; omega)
                        | (have hk : ksg (sga sg pm) = 1 := by omega
                           have hF := ff_at (sga sg pm) pm 1 hk
                           have hN1 := fn_at1 (sga sg pm) pm 1 hk
                           have hN2 := fn_at2 (sga sg pm) pm 1 hk
                           refine ⟨congrArg some ?_, _, rfl, fun q => ?_⟩ <;> omega)
                        | (have hk : ksg (sga sg pm) = 2 := by omega
                           have hF := ff_at (sga sg pm) pm 2 hk
                           have hN1 := fn_at1 (sga sg pm) pm 2 hk
                           have hN2 := fn_at2 (sga sg pm) pm 2 hk
                           refine ⟨congrArg some ?_, _, rfl, fun q => ?_⟩ <;> omega)
                    · dsimp only [cmpI] at c170
                      refine AW.go 2 (pc' := 179) rfl ?_
                      refine AW.ret rfl rfl (Nat.le_refl _) (Nat.le_refl _) ?_
                      first
                        | (exfalso; omega)
                        | (have hk : ksg (sga sg pm) = 1 := by omega
                           have hF := ff_at (sga sg pm) pm 1 hk
                           have hN1 := fn_at1 (sga sg pm) pm 1 hk
                           have hN2 := fn_at2 (sga sg pm) pm 1 hk
                           refine ⟨congrArg some ?_, _, rfl, fun q => ?_⟩ <;> omega)
                        | (have hk : ksg (sga sg pm) = 2 := by omega
                           have hF := ff_at (sga sg pm) pm 2 hk
                           have hN1 := fn_at1 (sga sg pm) pm 2 hk
                           have hN2 := fn_at2 (sga sg pm) pm 2 hk
                           refine ⟨congrArg some ?_, _, rfl, fun q => ?_⟩ <;> omega)
                  · refine AW.go 3 (pc' := 133) rfl ?_
                    refine AW.callVF (pn := 136) rfl rfl mlX4_64 (by first | assumption | exact set_self (by first | assumption | exact set_self (by first | assumption | exact set_self (by assumption) | exact set_ne (by first | assumption | decide | omega) (by assumption)) | exact set_ne (by first | assumption | decide | omega) (by first | assumption | exact set_self (by assumption) | exact set_ne (by first | assumption | decide | omega) (by assumption))) | exact set_ne (by first | assumption | decide | omega) (by first | assumption | exact set_self (by first | assumption | exact set_self (by assumption) | exact set_ne (by first | assumption | decide | omega) (by assumption)) | exact set_ne (by first | assumption | decide | omega) (by first | assumption | exact set_self (by assumption) | exact set_ne (by first | assumption | decide | omega) (by assumption)))) (c_X4_isSign (d - 1) (by omega) _ _ _ _ _ _ (by first | assumption | exact set_self (by first | assumption | exact set_self (by first | assumption | exact set_self (by assumption) | exact set_ne (by first | assumption | decide | omega) (by assumption)) | exact set_ne (by first | assumption | decide | omega) (by first | assumption | exact set_self (by assumption) | exact set_ne (by first | assumption | decide | omega) (by assumption))) | exact set_ne (by first | assumption | decide | omega) (by first | assumption | exact set_self (by first | assumption | exact set_self (by assumption) | exact set_ne (by first | assumption | decide | omega) (by assumption)) | exact set_ne (by first | assumption | decide | omega) (by first | assumption | exact set_self (by assumption) | exact set_ne (by first | assumption | decide | omega) (by assumption)))) (by omega) _ (by first | assumption | exact set_self (by first | assumption | exact set_self (by first | assumption | exact set_self (by assumption) | exact set_ne (by first | assumption | decide | omega) (by assumption)) | exact set_ne (by first | assumption | decide | omega) (by first | assumption | exact set_self (by assumption) | exact set_ne (by first | assumption | decide | omega) (by assumption))) | exact set_ne (by first | assumption | decide | omega) (by first | assumption | exact set_self (by first | assumption | exact set_self (by assumption) | exact set_ne (by first | assumption | decide | omega) (by assumption)) | exact set_ne (by first | assumption | decide | omega) (by first | assumption | exact set_self (by assumption) | exact set_ne (by first | assumption | decide | omega) (by assumption)))) (by assumption) _ _ (by omega) (by omega)) rfl rfl (Nat.le_of_ble_eq_true rfl) ⟨by show d - 1 + 1 ≤ d; omega, by show 40 * (d - 1 + 1) ≤ 40 * d; omega⟩ ⟨Nat.zero_le _, Nat.zero_le _⟩ ?_
                    refine AW.bz (tgt := 155) (pn := 139) rfl (by decide) rfl (fun c136 => ?_) (fun c136 => ?_)
                    · refine AW.go 6 (pc' := 162) rfl ?_
                      refine AW.putf (pn := 165) rfl rfl flX4_68 (by first | assumption | exact set_self (by first | assumption | exact set_self (by first | assumption | exact set_self (by assumption) | exact set_ne (by first | assumption | decide | omega) (by assumption)) | exact set_ne (by first | assumption | decide | omega) (by first | assumption | exact set_self (by assumption) | exact set_ne (by first | assumption | decide | omega) (by assumption))) | exact set_ne (by first | assumption | decide | omega) (by first | assumption | exact set_self (by first | assumption | exact set_self (by assumption) | exact set_ne (by first | assumption | decide | omega) (by assumption)) | exact set_ne (by first | assumption | decide | omega) (by first | assumption | exact set_self (by assumption) | exact set_ne (by first | assumption | decide | omega) (by assumption)))) rfl (by first | trivial | exact bI_01 _ | exact Or.inl rfl | exact Or.inr rfl) ?_
                      refine AW.go 2 (pc' := 167) rfl ?_
                      refine AW.getf (pn := 170) rfl rfl flX4_52 (by first | assumption | exact set_self (by first | assumption | exact set_self (by first | assumption | exact set_self (by assumption) | exact set_ne (by first | assumption | decide | omega) (by assumption)) | exact set_ne (by first | assumption | decide | omega) (by first | assumption | exact set_self (by assumption) | exact set_ne (by first | assumption | decide | omega) (by assumption))) | exact set_ne (by first | assumption | decide | omega) (by first | assumption | exact set_self (by first | assumption | exact set_self (by assumption) | exact set_ne (by first | assumption | decide | omega) (by assumption)) | exact set_ne (by first | assumption | decide | omega) (by first | assumption | exact set_self (by assumption) | exact set_ne (by first | assumption | decide | omega) (by assumption)))) rfl ?_
                      refine AW.bi (tgt := 177) (pn := 173) rfl (by decide) rfl (by first | exact bI_rng _ | exact ⟨by omega, by omega⟩) (by first | exact bI_rng _ | exact ⟨by omega, by omega⟩) (fun c170 => ?_) (fun c170 => ?_)
                      · dsimp only [cmpI] at c170
                        refine AW.go 1 (pc' := 179) rfl ?_
                        refine AW.ret rfl rfl (Nat.le_refl _) (Nat.le_refl _) ?_
                        first
                          | (exfalso; omega)
                          | (have hk : ksg (sga sg pm) = 1 := by omega
                             have hF := ff_at (sga sg pm) pm 1 hk
                             have hN1 := fn_at1 (sga sg pm) pm 1 hk
                             have hN2 := fn_at2 (sga sg pm) pm 1 hk
                             refine ⟨congrArg some ?_, _, rfl, fun q => ?_⟩ <;> omega)
                          | (have hk : ksg (sga sg pm) = 2 := by omega
                             have hF := ff_at (sga sg pm) pm 2 hk
                             have hN1 := fn_at1 (sga sg pm) pm 2 hk
                             have hN2 := fn_at2 (sga sg pm) pm 2 hk
                             refine ⟨congrArg some ?_, _, rfl, fun q => ?_⟩ <;> omega)
                      · dsimp only [cmpI] at c170
                        refine AW.go 2 (pc' := 179) rfl ?_
                        refine AW.ret rfl rfl (Nat.le_refl _) (Nat.le_refl _) ?_
                        first
                          | (exfalso; omega)
                          | (have hk : ksg (sga sg pm) = 1 := by omega
                             have hF := ff_at (sga sg pm) pm 1 hk
                             have hN1 := fn_at1 (sga sg pm) pm 1 hk
                             have hN2 := fn_at2 (sga sg pm) pm 1 hk
                             refine ⟨congrArg some ?_, _, rfl, fun q => ?_⟩ <;> omega)
                          | (have hk : ksg (sga sg pm) = 2 := by omega
                             have hF := ff_at (sga sg pm) pm 2 hk
                             have hN1 := fn_at1 (sga sg pm) pm 2 hk
                             have hN2 := fn_at2 (sga sg pm) pm 2 hk
                             refine ⟨congrArg some ?_, _, rfl, fun q => ?_⟩ <;> omega)
                    · refine AW.go 2 (pc' := 142) rfl ?_
                      refine AW.getf (pn := 145) rfl rfl flX4_16 (by first | assumption | exact set_self (by first | assumption | exact set_self (by first | assumption | exact set_self (by assumption) | exact set_ne (by first | assumption | decide | omega) (by assumption)) | exact set_ne (by first | assumption | decide | omega) (by first | assumption | exact set_self (by assumption) | exact set_ne (by first | assumption | decide | omega) (by assumption))) | exact set_ne (by first | assumption | decide | omega) (by first | assumption | exact set_self (by first | assumption | exact set_self (by assumption) | exact set_ne (by first | assumption | decide | omega) (by assumption)) | exact set_ne (by first | assumption | decide | omega) (by first | assumption | exact set_self (by assumption) | exact set_ne (by first | assumption | decide | omega) (by assumption)))) rfl ?_
                      refine AW.go 1 (pc' := 146) rfl ?_
                      refine AW.iald (pn := 147) rfl rfl (by first | assumption | exact set_self (by first | assumption | exact set_self (by first | assumption | exact set_self (by assumption) | exact set_ne (by first | assumption | decide | omega) (by assumption)) | exact set_ne (by first | assumption | decide | omega) (by first | assumption | exact set_self (by assumption) | exact set_ne (by first | assumption | decide | omega) (by assumption))) | exact set_ne (by first | assumption | decide | omega) (by first | assumption | exact set_self (by first | assumption | exact set_self (by assumption) | exact set_ne (by first | assumption | decide | omega) (by assumption)) | exact set_ne (by first | assumption | decide | omega) (by first | assumption | exact set_self (by assumption) | exact set_ne (by first | assumption | decide | omega) (by assumption)))) (by decide) (by omega) (by omega) ?_
                      refine AW.go 11 (pc' := 162) rfl ?_
                      refine AW.putf (pn := 165) rfl rfl flX4_68 (by first | assumption | exact set_self (by first | assumption | exact set_self (by first | assumption | exact set_self (by assumption) | exact set_ne (by first | assumption | decide | omega) (by assumption)) | exact set_ne (by first | assumption | decide | omega) (by first | assumption | exact set_self (by assumption) | exact set_ne (by first | assumption | decide | omega) (by assumption))) | exact set_ne (by first | assumption | decide | omega) (by first | assumption | exact set_self (by first | assumption | exact set_self (by assumption) | exact set_ne (by first | assumption | decide | omega) (by assumption)) | exact set_ne (by first | assumption | decide | omega) (by first | assumption | exact set_self (by assumption) | exact set_ne (by first | assumption | decide | omega) (by assumption)))) rfl (by first | trivial | exact bI_01 _ | exact Or.inl rfl | exact Or.inr rfl) ?_
                      refine AW.go 2 (pc' := 167) rfl ?_
                      refine AW.getf (pn := 170) rfl rfl flX4_52 (by first | assumption | exact set_self (by first | assumption | exact set_self (by first | assumption | exact set_self (by assumption) | exact set_ne (by first | assumption | decide | omega) (by assumption)) | exact set_ne (by first | assumption | decide | omega) (by first | assumption | exact set_self (by assumption) | exact set_ne (by first | assumption | decide | omega) (by assumption))) | exact set_ne (by first | assumption | decide | omega) (by first | assumption | exact set_self (by first | assumption | exact set_self (by assumption) | exact set_ne (by first | assumption | decide | omega) (by assumption)) | exact set_ne (by first | assumption | decide | omega) (by first | assumption | exact set_self (by assumption) | exact set_ne (by first | assumption | decide | omega) (by assumption)))) rfl ?_
                      refine AW.bi (tgt := 177) (pn := 173) rfl (by decide) rfl (by first | exact bI_rng _ | exact ⟨by omega, by omega⟩) (by first | exact bI_rng _ | exact ⟨by omega, by omega⟩) (fun c170 => ?_) (fun c170 => ?_)
                      · dsimp only [cmpI] at c170
                        refine AW.go 1 (pc' := 179) rfl ?_
                        refine AW.ret rfl rfl (Nat.le_refl _) (Nat.le_refl _) ?_
                        first
                          | (exfalso; omega)
                          | (have hk : ksg (sga sg pm) = 1 := by omega
                             have hF := ff_at (sga sg pm) pm 1 hk
                             have hN1 := fn_at1 (sga sg pm) pm 1 hk
                             have hN2 := fn_at2 (sga sg pm) pm 1 hk
                             refine ⟨congrArg some ?_, _, rfl, fun q => ?_⟩ <;> omega)
                          | (have hk : ksg (sga sg pm) = 2 := by omega
                             have hF := ff_at (sga sg pm) pm 2 hk
                             have hN1 := fn_at1 (sga sg pm) pm 2 hk
                             have hN2 := fn_at2 (sga sg pm) pm 2 hk
                             refine ⟨congrArg some ?_, _, rfl, fun q => ?_⟩ <;> omega)
                      · dsimp only [cmpI] at c170
                        refine AW.go 2 (pc' := 179) rfl ?_
                        refine AW.ret rfl rfl (Nat.le_refl _) (Nat.le_refl _) ?_
                        first
                          | (exfalso; omega)
                          | (have hk : ksg (sga sg pm) = 1 := by omega
                             have hF := ff_at (sga sg pm) pm 1 hk
                             have hN1 := fn_at1 (sga sg pm) pm 1 hk
                             have hN2 := fn_at2 (sga sg pm) pm 1 hk
                             refine ⟨congrArg some ?_, _, rfl, fun q => ?_⟩ <;> omega)
                          | (have hk : ksg (sga sg pm) = 2 := by omega
                             have hF := ff_at (sga sg pm) pm 2 hk
                             have hN1 := fn_at1 (sga sg pm) pm 2 hk
                             have hN2 := fn_at2 (sga sg pm) pm 2 hk
                             refine ⟨congrArg some ?_, _, rfl, fun q => ?_⟩ <;> omega)
              · refine AW.go 1 (pc' := 100) rfl ?_
                refine AW.ret rfl rfl (Nat.le_refl _) (Nat.le_refl _) ?_
                first
                  | (exfalso; omega)
                  | (have hk : ksg (sga sg pm) = 1 := by omega
                     have hF := ff_at (sga sg pm) pm 1 hk
                     have hN1 := fn_at1 (sga sg pm) pm 1 hk
                     have hN2 := fn_at2 (sga sg pm) pm 1 hk
                     refine ⟨congrArg some ?_, rf, (set_same hO).symm, fun q => ?_⟩ <;> omega)
                  | (have hk : ksg (sga sg pm) = 2 := by omega
                     have hF := ff_at (sga sg pm) pm 2 hk
                     have hN1 := fn_at1 (sga sg pm) pm 2 hk
                     have hN2 := fn_at2 (sga sg pm) pm 2 hk
                     refine ⟨congrArg some ?_, rf, (set_same hO).symm, fun q => ?_⟩ <;> omega)
          · dsimp only [cmpI] at c55
            refine AW.go 3 (pc' := 62) rfl ?_
            refine AW.callVF (pn := 65) rfl rfl mlX4_64 (by first | assumption | exact set_self (by first | assumption | exact set_self (by first | assumption | exact set_self (by assumption) | exact set_ne (by first | assumption | decide | omega) (by assumption)) | exact set_ne (by first | assumption | decide | omega) (by first | assumption | exact set_self (by assumption) | exact set_ne (by first | assumption | decide | omega) (by assumption))) | exact set_ne (by first | assumption | decide | omega) (by first | assumption | exact set_self (by first | assumption | exact set_self (by assumption) | exact set_ne (by first | assumption | decide | omega) (by assumption)) | exact set_ne (by first | assumption | decide | omega) (by first | assumption | exact set_self (by assumption) | exact set_ne (by first | assumption | decide | omega) (by assumption)))) (c_X4_isSign (d - 1) (by omega) _ _ _ _ _ _ (by first | assumption | exact set_self (by first | assumption | exact set_self (by first | assumption | exact set_self (by assumption) | exact set_ne (by first | assumption | decide | omega) (by assumption)) | exact set_ne (by first | assumption | decide | omega) (by first | assumption | exact set_self (by assumption) | exact set_ne (by first | assumption | decide | omega) (by assumption))) | exact set_ne (by first | assumption | decide | omega) (by first | assumption | exact set_self (by first | assumption | exact set_self (by assumption) | exact set_ne (by first | assumption | decide | omega) (by assumption)) | exact set_ne (by first | assumption | decide | omega) (by first | assumption | exact set_self (by assumption) | exact set_ne (by first | assumption | decide | omega) (by assumption)))) (by omega) _ (by first | assumption | exact set_self (by first | assumption | exact set_self (by first | assumption | exact set_self (by assumption) | exact set_ne (by first | assumption | decide | omega) (by assumption)) | exact set_ne (by first | assumption | decide | omega) (by first | assumption | exact set_self (by assumption) | exact set_ne (by first | assumption | decide | omega) (by assumption))) | exact set_ne (by first | assumption | decide | omega) (by first | assumption | exact set_self (by first | assumption | exact set_self (by assumption) | exact set_ne (by first | assumption | decide | omega) (by assumption)) | exact set_ne (by first | assumption | decide | omega) (by first | assumption | exact set_self (by assumption) | exact set_ne (by first | assumption | decide | omega) (by assumption)))) (by assumption) _ _ (by omega) (by omega)) rfl rfl (Nat.le_of_ble_eq_true rfl) ⟨by show d - 1 + 1 ≤ d; omega, by show 40 * (d - 1 + 1) ≤ 40 * d; omega⟩ ⟨Nat.zero_le _, Nat.zero_le _⟩ ?_
            refine AW.bz (tgt := 72) (pn := 68) rfl (by decide) rfl (fun c65 => ?_) (fun c65 => ?_)
            · refine AW.go 2 (pc' := 74) rfl ?_
              refine AW.getf (pn := 77) rfl rfl flX4_52 (by first | assumption | exact set_self (by first | assumption | exact set_self (by first | assumption | exact set_self (by assumption) | exact set_ne (by first | assumption | decide | omega) (by assumption)) | exact set_ne (by first | assumption | decide | omega) (by first | assumption | exact set_self (by assumption) | exact set_ne (by first | assumption | decide | omega) (by assumption))) | exact set_ne (by first | assumption | decide | omega) (by first | assumption | exact set_self (by first | assumption | exact set_self (by assumption) | exact set_ne (by first | assumption | decide | omega) (by assumption)) | exact set_ne (by first | assumption | decide | omega) (by first | assumption | exact set_self (by assumption) | exact set_ne (by first | assumption | decide | omega) (by assumption)))) rfl ?_
              refine AW.bi (tgt := 99) (pn := 80) rfl (by decide) rfl (by first | exact bI_rng _ | exact ⟨by omega, by omega⟩) (by first | exact bI_rng _ | exact ⟨by omega, by omega⟩) (fun c77 => ?_) (fun c77 => ?_)
              · dsimp only [cmpI] at c77
                refine AW.go 1 (pc' := 100) rfl ?_
                refine AW.ret rfl rfl (Nat.le_refl _) (Nat.le_refl _) ?_
                first
                  | (exfalso; omega)
                  | (have hk : ksg (sga sg pm) = 1 := by omega
                     have hF := ff_at (sga sg pm) pm 1 hk
                     have hN1 := fn_at1 (sga sg pm) pm 1 hk
                     have hN2 := fn_at2 (sga sg pm) pm 1 hk
                     refine ⟨congrArg some ?_, rf, (set_same hO).symm, fun q => ?_⟩ <;> omega)
                  | (have hk : ksg (sga sg pm) = 2 := by omega
                     have hF := ff_at (sga sg pm) pm 2 hk
                     have hN1 := fn_at1 (sga sg pm) pm 2 hk
                     have hN2 := fn_at2 (sga sg pm) pm 2 hk
                     refine ⟨congrArg some ?_, rf, (set_same hO).symm, fun q => ?_⟩ <;> omega)
              · dsimp only [cmpI] at c77
                refine AW.go 1 (pc' := 81) rfl ?_
                refine AW.getf (pn := 84) rfl rfl flX4_16 (by first | assumption | exact set_self (by first | assumption | exact set_self (by first | assumption | exact set_self (by assumption) | exact set_ne (by first | assumption | decide | omega) (by assumption)) | exact set_ne (by first | assumption | decide | omega) (by first | assumption | exact set_self (by assumption) | exact set_ne (by first | assumption | decide | omega) (by assumption))) | exact set_ne (by first | assumption | decide | omega) (by first | assumption | exact set_self (by first | assumption | exact set_self (by assumption) | exact set_ne (by first | assumption | decide | omega) (by assumption)) | exact set_ne (by first | assumption | decide | omega) (by first | assumption | exact set_self (by assumption) | exact set_ne (by first | assumption | decide | omega) (by assumption)))) rfl ?_
                refine AW.go 1 (pc' := 85) rfl ?_
                refine AW.iald (pn := 86) rfl rfl (by first | assumption | exact set_self (by first | assumption | exact set_self (by first | assumption | exact set_self (by assumption) | exact set_ne (by first | assumption | decide | omega) (by assumption)) | exact set_ne (by first | assumption | decide | omega) (by first | assumption | exact set_self (by assumption) | exact set_ne (by first | assumption | decide | omega) (by assumption))) | exact set_ne (by first | assumption | decide | omega) (by first | assumption | exact set_self (by first | assumption | exact set_self (by assumption) | exact set_ne (by first | assumption | decide | omega) (by assumption)) | exact set_ne (by first | assumption | decide | omega) (by first | assumption | exact set_self (by assumption) | exact set_ne (by first | assumption | decide | omega) (by assumption)))) (by decide) (by omega) (by omega) ?_
                refine AW.i2l (pn := 87) rfl rfl (by first | exact bI_rng _ | exact ⟨by omega, by omega⟩) ?_
                refine AW.ldc2 (pn := 90) rfl rfl clX4_56 ?_
                refine AW.ldc2 (pn := 93) rfl rfl clX4_58 ?_
                refine AW.callSF (pn := 96) rfl rfl mlX4_40 (c_X4_in (d - 1) (by omega) _ _ _ _ (by omega) (by omega) (by omega)) rfl rfl (Nat.le_of_ble_eq_true rfl) ⟨by show d - 1 + 1 ≤ d; omega, by show 40 * (d - 1 + 1) ≤ 40 * d; omega⟩ ⟨Nat.zero_le _, Nat.zero_le _⟩ ?_
                refine AW.bnz (tgt := 101) (pn := 99) rfl (by decide) rfl (fun c96 => ?_) (fun c96 => ?_)
                · refine AW.go 1 (pc' := 102) rfl ?_
                  refine AW.getf (pn := 105) rfl rfl flX4_16 (by first | assumption | exact set_self (by first | assumption | exact set_self (by first | assumption | exact set_self (by assumption) | exact set_ne (by first | assumption | decide | omega) (by assumption)) | exact set_ne (by first | assumption | decide | omega) (by first | assumption | exact set_self (by assumption) | exact set_ne (by first | assumption | decide | omega) (by assumption))) | exact set_ne (by first | assumption | decide | omega) (by first | assumption | exact set_self (by first | assumption | exact set_self (by assumption) | exact set_ne (by first | assumption | decide | omega) (by assumption)) | exact set_ne (by first | assumption | decide | omega) (by first | assumption | exact set_self (by assumption) | exact set_ne (by first | assumption | decide | omega) (by assumption)))) rfl ?_
                  refine AW.go 1 (pc' := 106) rfl ?_
                  refine AW.iald (pn := 107) rfl rfl (by first | assumption | exact set_self (by first | assumption | exact set_self (by first | assumption | exact set_self (by assumption) | exact set_ne (by first | assumption | decide | omega) (by assumption)) | exact set_ne (by first | assumption | decide | omega) (by first | assumption | exact set_self (by assumption) | exact set_ne (by first | assumption | decide | omega) (by assumption))) | exact set_ne (by first | assumption | decide | omega) (by first | assumption | exact set_self (by first | assumption | exact set_self (by assumption) | exact set_ne (by first | assumption | decide | omega) (by assumption)) | exact set_ne (by first | assumption | decide | omega) (by first | assumption | exact set_self (by assumption) | exact set_ne (by first | assumption | decide | omega) (by assumption)))) (by decide) (by omega) (by omega) ?_
                  refine AW.go 6 (pc' := 116) rfl ?_
                  refine AW.bi (tgt := 155) (pn := 119) rfl (by decide) rfl (by first | exact bI_rng _ | exact ⟨by omega, by omega⟩) (by first | exact bI_rng _ | exact ⟨by omega, by omega⟩) (fun c116 => ?_) (fun c116 => ?_)
                  · dsimp only [cmpI] at c116
                    refine AW.go 6 (pc' := 162) rfl ?_
                    refine AW.putf (pn := 165) rfl rfl flX4_68 (by first | assumption | exact set_self (by first | assumption | exact set_self (by first | assumption | exact set_self (by assumption) | exact set_ne (by first | assumption | decide | omega) (by assumption)) | exact set_ne (by first | assumption | decide | omega) (by first | assumption | exact set_self (by assumption) | exact set_ne (by first | assumption | decide | omega) (by assumption))) | exact set_ne (by first | assumption | decide | omega) (by first | assumption | exact set_self (by first | assumption | exact set_self (by assumption) | exact set_ne (by first | assumption | decide | omega) (by assumption)) | exact set_ne (by first | assumption | decide | omega) (by first | assumption | exact set_self (by assumption) | exact set_ne (by first | assumption | decide | omega) (by assumption)))) rfl (by first | trivial | exact bI_01 _ | exact Or.inl rfl | exact Or.inr rfl) ?_
                    refine AW.go 2 (pc' := 167) rfl ?_
                    refine AW.getf (pn := 170) rfl rfl flX4_52 (by first | assumption | exact set_self (by first | assumption | exact set_self (by first | assumption | exact set_self (by assumption) | exact set_ne (by first | assumption | decide | omega) (by assumption)) | exact set_ne (by first | assumption | decide | omega) (by first | assumption | exact set_self (by assumption) | exact set_ne (by first | assumption | decide | omega) (by assumption))) | exact set_ne (by first | assumption | decide | omega) (by first | assumption | exact set_self (by first | assumption | exact set_self (by assumption) | exact set_ne (by first | assumption | decide | omega) (by assumption)) | exact set_ne (by first | assumption | decide | omega) (by first | assumption | exact set_self (by assumption) | exact set_ne (by first | assumption | decide | omega) (by assumption)))) rfl ?_
                    refine AW.bi (tgt := 177) (pn := 173) rfl (by decide) rfl (by first | exact bI_rng _ | exact ⟨by omega, by omega⟩) (by first | exact bI_rng _ | exact ⟨by omega, by omega⟩) (fun c170 => ?_) (fun c170 => ?_)
                    · dsimp only [cmpI] at c170
                      refine AW.go 1 (pc' := 179) rfl ?_
                      refine AW.ret rfl rfl (Nat.le_refl _) (Nat.le_refl _) ?_
                      first
                        | (exfalso; omega)
                        | (have hk : ksg (sga sg pm) = 1 := by omega
                           have hF := ff_at (sga sg pm) pm 1 hk
                           have hN1 := fn_at1 (sga sg pm) pm 1 hk
                           have hN2 := fn_at2 (sga sg pm) pm 1 hk
                           refine ⟨congrArg some ?_, _, rfl, fun q => ?_⟩ <;> omega)
                        | (have hk : ksg (sga sg pm) = 2 := by omega
                           have hF := ff_at (sga sg pm) pm 2 hk
                           have hN1 := fn_at1 (sga sg pm) pm 2 hk
                           have hN2 := fn_at2 (sga sg pm) pm 2 hk
                           refine ⟨congrArg some ?_, _, rfl, fun q => ?_⟩ <;> omega)
                    · dsimp only [cmpI] at c170
                      refine AW.go 2 (pc' := 179) rfl ?_
                      refine AW.ret rfl rfl (Nat.le_refl _) (Nat.le_refl _) ?_
                      first
                        | (exfalso; omega)
                        | (have hk : ksg (sga sg pm) = 1 := by omega
                           have hF := ff_at (sga sg pm) pm 1 hk
                           have hN1 := fn_at1 (sga sg pm) pm 1 hk
                           have hN2 := fn_at2 (sga sg pm) pm 1 hk
                           refine ⟨congrArg some ?_, _, rfl, fun q => ?_⟩ <;> omega)
                        | (have hk : ksg (sga sg pm) = 2 := by omega
                           have hF := ff_at (sga sg pm) pm 2 hk
                           have hN1 := fn_at1 (sga sg pm) pm 2 hk
                           have hN2 := fn_at2 (sga sg pm) pm 2 hk
                           refine ⟨congrArg some ?_, _, rfl, fun q => ?_⟩ <;> omega)
                  · dsimp only [cmpI] at c116
                    refine AW.go 3 (pc' := 123) rfl ?_
                    refine AW.callVF (pn := 126) rfl rfl mlX4_64 (by first | assumption | exact set_self (by first | assumption | exact set_self (by first | assumption | exact set_self (by assumption) | exact set_ne (by first | assumption | decide | omega) (by assumption)) | exact set_ne (by first | assumption | decide | omega) (by first | assumption | exact set_self (by assumption) | exact set_ne (by first | assumption | decide | omega) (by assumption))) | exact set_ne (by first | assumption | decide | omega) (by first | assumption | exact set_self (by first | assumption | exact set_self (by assumption) | exact set_ne (by first | assumption | decide | omega) (by assumption)) | exact set_ne (by first | assumption | decide | omega) (by first | assumption | exact set_self (by assumption) | exact set_ne (by first | assumption | decide | omega) (by assumption)))) (c_X4_isSign (d - 1) (by omega) _ _ _ _ _ _ (by first | assumption | exact set_self (by first | assumption | exact set_self (by first | assumption | exact set_self (by assumption) | exact set_ne (by first | assumption | decide | omega) (by assumption)) | exact set_ne (by first | assumption | decide | omega) (by first | assumption | exact set_self (by assumption) | exact set_ne (by first | assumption | decide | omega) (by assumption))) | exact set_ne (by first | assumption | decide | omega) (by first | assumption | exact set_self (by first | assumption | exact set_self (by assumption) | exact set_ne (by first | assumption | decide | omega) (by assumption)) | exact set_ne (by first | assumption | decide | omega) (by first | assumption | exact set_self (by assumption) | exact set_ne (by first | assumption | decide | omega) (by assumption)))) (by omega) _ (by first | assumption | exact set_self (by first | assumption | exact set_self (by first | assumption | exact set_self (by assumption) | exact set_ne (by first | assumption | decide | omega) (by assumption)) | exact set_ne (by first | assumption | decide | omega) (by first | assumption | exact set_self (by assumption) | exact set_ne (by first | assumption | decide | omega) (by assumption))) | exact set_ne (by first | assumption | decide | omega) (by first | assumption | exact set_self (by first | assumption | exact set_self (by assumption) | exact set_ne (by first | assumption | decide | omega) (by assumption)) | exact set_ne (by first | assumption | decide | omega) (by first | assumption | exact set_self (by assumption) | exact set_ne (by first | assumption | decide | omega) (by assumption)))) (by assumption) _ _ (by omega) (by omega)) rfl rfl (Nat.le_of_ble_eq_true rfl) ⟨by show d - 1 + 1 ≤ d; omega, by show 40 * (d - 1 + 1) ≤ 40 * d; omega⟩ ⟨Nat.zero_le _, Nat.zero_le _⟩ ?_
                    refine AW.bnz (tgt := 139) (pn := 129) rfl (by decide) rfl (fun c126 => ?_) (fun c126 => ?_)
                    · refine AW.go 2 (pc' := 142) rfl ?_
                      refine AW.getf (pn := 145) rfl rfl flX4_16 (by first | assumption | exact set_self (by first | assumption | exact set_self (by first | assumption | exact set_self (by assumption) | exact set_ne (by first | assumption | decide | omega) (by assumption)) | exact set_ne (by first | assumption | decide | omega) (by first | assumption | exact set_self (by assumption) | exact set_ne (by first | assumption | decide | omega) (by assumption))) | exact set_ne (by first | assumption | decide | omega) (by first | assumption | exact set_self (by first | assumption | exact set_self (by assumption) | exact set_ne (by first | assumption | decide | omega) (by assumption)) | exact set_ne (by first | assumption | decide | omega) (by first | assumption | exact set_self (by assumption) | exact set_ne (by first | assumption | decide | omega) (by assumption)))) rfl ?_
                      refine AW.go 1 (pc' := 146) rfl ?_
                      refine AW.iald (pn := 147) rfl rfl (by first | assumption | exact set_self (by first | assumption | exact set_self (by first | assumption | exact set_self (by assumption) | exact set_ne (by first | assumption | decide | omega) (by assumption)) | exact set_ne (by first | assumption | decide | omega) (by first | assumption | exact set_self (by assumption) | exact set_ne (by first | assumption | decide | omega) (by assumption))) | exact set_ne (by first | assumption | decide | omega) (by first | assumption | exact set_self (by first | assumption | exact set_self (by assumption) | exact set_ne (by first | assumption | decide | omega) (by assumption)) | exact set_ne (by first | assumption | decide | omega) (by first | assumption | exact set_self (by assumption) | exact set_ne (by first | assumption | decide | omega) (by assumption)))) (by decide) (by omega) (by omega) ?_
                      refine AW.go 11 (pc' := 162) rfl ?_
                      refine AW.putf (pn := 165) rfl rfl flX4_68 (by first | assumption | exact set_self (by first | assumption | exact set_self (by first | assumption | exact set_self (by assumption) | exact set_ne (by first | assumption | decide | omega) (by assumption)) | exact set_ne (by first | assumption | decide | omega) (by first | assumption | exact set_self (by assumption) | exact set_ne (by first | assumption | decide | omega) (by assumption))) | exact set_ne (by first | assumption | decide | omega) (by first | assumption | exact set_self (by first | assumption | exact set_self (by assumption) | exact set_ne (by first | assumption | decide | omega) (by assumption)) | exact set_ne (by first | assumption | decide | omega) (by first | assumption | exact set_self (by assumption) | exact set_ne (by first | assumption | decide | omega) (by assumption)))) rfl (by first | trivial | exact bI_01 _ | exact Or.inl rfl | exact Or.inr rfl) ?_
                      refine AW.go 2 (pc' := 167) rfl ?_
                      refine AW.getf (pn := 170) rfl rfl flX4_52 (by first | assumption | exact set_self (by first | assumption | exact set_self (by first | assumption | exact set_self (by assumption) | exact set_ne (by first | assumption | decide | omega) (by assumption)) | exact set_ne (by first | assumption | decide | omega) (by first | assumption | exact set_self (by assumption) | exact set_ne (by first | assumption | decide | omega) (by assumption))) | exact set_ne (by first | assumption | decide | omega) (by first | assumption | exact set_self (by first | assumption | exact set_self (by assumption) | exact set_ne (by first | assumption | decide | omega) (by assumption)) | exact set_ne (by first | assumption | decide | omega) (by first | assumption | exact set_self (by assumption) | exact set_ne (by first | assumption | decide | omega) (by assumption)))) rfl ?_
                      refine AW.bi (tgt := 177) (pn := 173) rfl (by decide) rfl (by first | exact bI_rng _ | exact ⟨by omega, by omega⟩) (by first | exact bI_rng _ | exact ⟨by omega, by omega⟩) (fun c170 => ?_) (fun c170 => ?_)
                      · dsimp only [cmpI] at c170
                        refine AW.go 1 (pc' := 179) rfl ?_
                        refine AW.ret rfl rfl (Nat.le_refl _) (Nat.le_refl _) ?_
                        first
                          | (exfalso; omega)
                          | (have hk : ksg (sga sg pm) = 1 := by omega
                             have hF := ff_at (sga sg pm) pm 1 hk
                             have hN1 := fn_at1 (sga sg pm) pm 1 hk
                             have hN2 := fn_at2 (sga sg pm) pm 1 hk
                             refine ⟨congrArg some ?_, _, rfl, fun q => ?_⟩ <;> omega)
                          | (have hk : ksg (sga sg pm) = 2 := by omega
                             have hF := ff_at (sga sg pm) pm 2 hk
                             have hN1 := fn_at1 (sga sg pm) pm 2 hk
                             have hN2 := fn_at2 (sga sg pm) pm 2 hk
                             refine ⟨congrArg some ?_, _, rfl, fun q => ?_⟩ <;> omega)
                      · dsimp only [cmpI] at c170
                        refine AW.go 2 (pc' := 179) rfl ?_
                        refine AW.ret rfl rfl (Nat.le_refl _) (Nat.le_refl _) ?_
                        first
                          | (exfalso; omega)
                          | (have hk : ksg (sga sg pm) = 1 := by omega
                             have hF := ff_at (sga sg pm) pm 1 hk
                             have hN1 := fn_at1 (sga sg pm) pm 1 hk
                             have hN2 := fn_at2 (sga sg pm) pm 1 hk
                             refine ⟨congrArg some ?_, _, rfl, fun q => ?_⟩ <;> omega)
                          | (have hk : ksg (sga sg pm) = 2 := by omega
                             have hF := ff_at (sga sg pm) pm 2 hk
                             have hN1 := fn_at1 (sga sg pm) pm 2 hk
                             have hN2 := fn_at2 (sga sg pm) pm 2 hk
                             refine ⟨congrArg some ?_, _, rfl, fun q => ?_⟩ <;> omega)
                    · refine AW.go 3 (pc' := 133) rfl ?_
                      refine AW.callVF (pn := 136) rfl rfl mlX4_64 (by first | assumption | exact set_self (by first | assumption | exact set_self (by first | assumption | exact set_self (by assumption) | exact set_ne (by first | assumption | decide | omega) (by assumption)) | exact set_ne (by first | assumption | decide | omega) (by first | assumption | exact set_self (by assumption) | exact set_ne (by first | assumption | decide | omega) (by assumption))) | exact set_ne (by first | assumption | decide | omega) (by first | assumption | exact set_self (by first | assumption | exact set_self (by assumption) | exact set_ne (by first | assumption | decide | omega) (by assumption)) | exact set_ne (by first | assumption | decide | omega) (by first | assumption | exact set_self (by assumption) | exact set_ne (by first | assumption | decide | omega) (by assumption)))) (c_X4_isSign (d - 1) (by omega) _ _ _ _ _ _ (by first | assumption | exact set_self (by first | assumption | exact set_self (by first | assumption | exact set_self (by assumption) | exact set_ne (by first | assumption | decide | omega) (by assumption)) | exact set_ne (by first | assumption | decide | omega) (by first | assumption | exact set_self (by assumption) | exact set_ne (by first | assumption | decide | omega) (by assumption))) | exact set_ne (by first | assumption | decide | omega) (by first | assumption | exact set_self (by first | assumption | exact set_self (by assumption) | exact set_ne (by first | assumption | decide | omega) (by assumption)) | exact set_ne (by first | assumption | decide | omega) (by first | assumption | exact set_self (by assumption) | exact set_ne (by first | assumption | decide | omega) (by assumption)))) (by omega) _ (by first | assumption | exact set_self (by first | assumption | exact set_self (by first | assumption | exact set_self (by assumption) | exact set_ne (by first | assumption | decide | omega) (by assumption)) | exact set_ne (by first | assumption | decide | omega) (by first | assumption | exact set_self (by assumption) | exact set_ne (by first | assumption | decide | omega) (by assumption))) | exact set_ne (by first | assumption | decide | omega) (by first | assumption | exact set_self (by first | assumption | exact set_self (by assumption) | exact set_ne (by first | assumption | decide | omega) (by assumption)) | exact set_ne (by first | assumption | decide | omega) (by first | assumption | exact set_self (by assumption) | exact set_ne (by first | assumption | decide | omega) (by assumption)))) (by assumption) _ _ (by omega) (by omega)) rfl rfl (Nat.le_of_ble_eq_true rfl) ⟨by show d - 1 + 1 ≤ d; omega, by show 40 * (d - 1 + 1) ≤ 40 * d; omega⟩ ⟨Nat.zero_le _, Nat.zero_le _⟩ ?_
                      refine AW.bz (tgt := 155) (pn := 139) rfl (by decide) rfl (fun c136 => ?_) (fun c136 => ?_)
                      · refine AW.go 6 (pc' := 162) rfl ?_
                        refine AW.putf (pn := 165) rfl rfl flX4_68 (by first | assumption | exact set_self (by first | assumption | exact set_self (by first | assumption | exact set_self (by assumption) | exact set_ne (by first | assumption | decide | omega) (by assumption)) | exact set_ne (by first | assumption | decide | omega) (by first | assumption | exact set_self (by assumption) | exact set_ne (by first | assumption | decide | omega) (by assumption))) | exact set_ne (by first | assumption | decide | omega) (by first | assumption | exact set_self (by first | assumption | exact set_self (by assumption) | exact set_ne (by first | assumption | decide | omega) (by assumption)) | exact set_ne (by first | assumption | decide | omega) (by first | assumption | exact set_self (by assumption) | exact set_ne (by first | assumption | decide | omega) (by assumption)))) rfl (by first | trivial | exact bI_01 _ | exact Or.inl rfl | exact Or.inr rfl) ?_
                        refine AW.go 2 (pc' := 167) rfl ?_
                        refine AW.getf (pn := 170) rfl rfl flX4_52 (by first | assumption | exact set_self (by first | assumption | exact set_self (by first | assumption | exact set_self (by assumption) | exact set_ne (by first | assumption | decide | omega) (by assumption)) | exact set_ne (by first | assumption | decide | omega) (by first | assumption | exact set_self (by assumption) | exact set_ne (by first | assumption | decide | omega) (by assumption))) | exact set_ne (by first | assumption | decide | omega) (by first | assumption | exact set_self (by first | assumption | exact set_self (by assumption) | exact set_ne (by first | assumption | decide | omega) (by assumption)) | exact set_ne (by first | assumption | decide | omega) (by first | assumption | exact set_self (by assumption) | exact set_ne (by first | assumption | decide | omega) (by assumption)))) rfl ?_
                        refine AW.bi (tgt := 177) (pn := 173) rfl (by decide) rfl (by first | exact bI_rng _ | exact ⟨by omega, by omega⟩) (by first | exact bI_rng _ | exact ⟨by omega, by omega⟩) (fun c170 => ?_) (fun c170 => ?_)
                        · dsimp only [cmpI] at c170
                          refine AW.go 1 (pc' := 179) rfl ?_
                          refine AW.ret rfl rfl (Nat.le_refl _) (Nat.le_refl _) ?_
                          first
                            | (exfalso; omega)
                            | (have hk : ksg (sga sg pm) = 1 := by omega
                               have hF := ff_at (sga sg pm) pm 1 hk
                               have hN1 := fn_at1 (sga sg pm) pm 1 hk
                               have hN2 := fn_at2 (sga sg pm) pm 1 hk
                               refine ⟨congrArg some ?_, _, rfl, fun q => ?_⟩ <;> omega)
                            | (have hk : ksg (sga sg pm) = 2 := by omega
                               have hF := ff_at (sga sg pm) pm 2 hk
                               have hN1 := fn_at1 (sga sg pm) pm 2 hk
                               have hN2 := fn_at2 (sga sg pm) pm 2 hk
                               refine ⟨congrArg some ?_, _, rfl, fun q => ?_⟩ <;> omega)
                        · dsimp only [cmpI] at c170
                          refine AW.go 2 (pc' := 179) rfl ?_
                          refine AW.ret rfl rfl (Nat.le_refl _) (Nat.le_refl _) ?_
                          first
                            | (exfalso; omega)
                            | (have hk : ksg (sga sg pm) = 1 := by omega
                               have hF := ff_at (sga sg pm) pm 1 hk
                               have hN1 := fn_at1 (sga sg pm) pm 1 hk
                               have hN2 := fn_at2 (sga sg pm) pm 1 hk
                               refine ⟨congrArg some ?_, _, rfl, fun q => ?_⟩ <;> omega)
                            | (have hk : ksg (sga sg pm) = 2 := by omega
                               have hF := ff_at (sga sg pm) pm 2 hk
                               have hN1 := fn_at1 (sga sg pm) pm 2 hk
                               have hN2 := fn_at2 (sga sg pm) pm 2 hk
                               refine ⟨congrArg some ?_, _, rfl, fun q => ?_⟩ <;> omega)
                      · refine AW.go 2 (pc' := 142) rfl ?_
                        refine AW.getf (pn := 145) rfl rfl flX4_16 (by first | assumption | exact set_self (by first | assumption | exact set_self (by first | assumption | exact set_self (by assumption) | exact set_ne (by first | assumption | decide | omega) (by assumption)) | exact set_ne (by first | assumption | decide | omega) (by first | assumption | exact set_self (by assumption) | exact set_ne (by first | assumption | decide | omega) (by assumption))) | exact set_ne (by first | assumption | decide | omega) (by first | assumption | exact set_self (by first | assumption | exact set_self (by assumption) | exact set_ne (by first | assumption | decide | omega) (by assumption)) | exact set_ne (by first | assumption | decide | omega) (by first | assumption | exact set_self (by assumption) | exact set_ne (by first | assumption | decide | omega) (by assumption)))) rfl ?_
                        refine AW.go 1 (pc' := 146) rfl ?_
                        refine AW.iald (pn := 147) rfl rfl (by first | assumption | exact set_self (by first | assumption | exact set_self (by first | assumption | exact set_self (by assumption) | exact set_ne (by first | assumption | decide | omega) (by assumption)) | exact set_ne (by first | assumption | decide | omega) (by first | assumption | exact set_self (by assumption) | exact set_ne (by first | assumption | decide | omega) (by assumption))) | exact set_ne (by first | assumption | decide | omega) (by first | assumption | exact set_self (by first | assumption | exact set_self (by assumption) | exact set_ne (by first | assumption | decide | omega) (by assumption)) | exact set_ne (by first | assumption | decide | omega) (by first | assumption | exact set_self (by assumption) | exact set_ne (by first | assumption | decide | omega) (by assumption)))) (by decide) (by omega) (by omega) ?_
                        refine AW.go 11 (pc' := 162) rfl ?_
                        refine AW.putf (pn := 165) rfl rfl flX4_68 (by first | assumption | exact set_self (by first | assumption | exact set_self (by first | assumption | exact set_self (by assumption) | exact set_ne (by first | assumption | decide | omega) (by assumption)) | exact set_ne (by first | assumption | decide | omega) (by first | assumption | exact set_self (by assumption) | exact set_ne (by first | assumption | decide | omega) (by assumption))) | exact set_ne (by first | assumption | decide | omega) (by first | assumption | exact set_self (by first | assumption | exact set_self (by assumption) | exact set_ne (by first | assumption | decide | omega) (by assumption)) | exact set_ne (by first | assumption | decide | omega) (by first | assumption | exact set_self (by assumption) | exact set_ne (by first | assumption | decide | omega) (by assumption)))) rfl (by first | trivial | exact bI_01 _ | exact Or.inl rfl | exact Or.inr rfl) ?_
                        refine AW.go 2 (pc' := 167) rfl ?_
                        refine AW.getf (pn := 170) rfl rfl flX4_52 (by first | assumption | exact set_self (by first | assumption | exact set_self (by first | assumption | exact set_self (by assumption) | exact set_ne (by first | assumption | decide | omega) (by assumption)) | exact set_ne (by first | assumption | decide | omega) (by first | assumption | exact set_self (by assumption) | exact set_ne (by first | assumption | decide | omega) (by assumption))) | exact set_ne (by first | assumption | decide | omega) (by first | assumption | exact set_self (by first | assumption | exact set_self (by assumption) | exact set_ne (by first | assumption | decide | omega) (by assumption)) | exact set_ne (by first | assumption | decide | omega) (by first | assumption | exact set_self (by assumption) | exact set_ne (by first | assumption | decide | omega) (by assumption)))) rfl ?_
                        refine AW.bi (tgt := 177) (pn := 173) rfl (by decide) rfl (by first | exact bI_rng _ | exact ⟨by omega, by omega⟩) (by first | exact bI_rng _ | exact ⟨by omega, by omega⟩) (fun c170 => ?_) (fun c170 => ?_)
                        · dsimp only [cmpI] at c170
                          refine AW.go 1 (pc' := 179) rfl ?_
                          refine AW.ret rfl rfl (Nat.le_refl _) (Nat.le_refl _) ?_
                          first
                            | (exfalso; omega)
                            | (have hk : ksg (sga sg pm) = 1 := by omega
                               have hF := ff_at (sga sg pm) pm 1 hk
                               have hN1 := fn_at1 (sga sg pm) pm 1 hk
                               have hN2 := fn_at2 (sga sg pm) pm 1 hk
                               refine ⟨congrArg some ?_, _, rfl, fun q => ?_⟩ <;> omega)
                            | (have hk : ksg (sga sg pm) = 2 := by omega
                               have hF := ff_at (sga sg pm) pm 2 hk
                               have hN1 := fn_at1 (sga sg pm) pm 2 hk
                               have hN2 := fn_at2 (sga sg pm) pm 2 hk
                               refine ⟨congrArg some ?_, _, rfl, fun q => ?_⟩ <;> omega)
                        · dsimp only [cmpI] at c170
                          refine AW.go 2 (pc' := 179) rfl ?_
                          refine AW.ret rfl rfl (Nat.le_refl _) (Nat.le_refl _) ?_
                          first
                            | (exfalso; omega)
                            | (have hk : ksg (sga sg pm) = 1 := by omega
                               have hF := ff_at (sga sg pm) pm 1 hk
                               have hN1 := fn_at1 (sga sg pm) pm 1 hk
                               have hN2 := fn_at2 (sga sg pm) pm 1 hk
                               refine ⟨congrArg some ?_, _, rfl, fun q => ?_⟩ <;> omega)
                            | (have hk : ksg (sga sg pm) = 2 := by omega
                               have hF := ff_at (sga sg pm) pm 2 hk
                               have hN1 := fn_at1 (sga sg pm) pm 2 hk
                               have hN2 := fn_at2 (sga sg pm) pm 2 hk
                               refine ⟨congrArg some ?_, _, rfl, fun q => ?_⟩ <;> omega)
                · refine AW.go 1 (pc' := 100) rfl ?_
                  refine AW.ret rfl rfl (Nat.le_refl _) (Nat.le_refl _) ?_
                  first
                    | (exfalso; omega)
                    | (have hk : ksg (sga sg pm) = 1 := by omega
                       have hF := ff_at (sga sg pm) pm 1 hk
                       have hN1 := fn_at1 (sga sg pm) pm 1 hk
                       have hN2 := fn_at2 (sga sg pm) pm 1 hk
                       refine ⟨congrArg some ?_, rf, (set_same hO).symm, fun q => ?_⟩ <;> omega)
                    | (have hk : ksg (sga sg pm) = 2 := by omega
                       have hF := ff_at (sga sg pm) pm 2 hk
                       have hN1 := fn_at1 (sga sg pm) pm 2 hk
                       have hN2 := fn_at2 (sga sg pm) pm 2 hk
                       refine ⟨congrArg some ?_, rf, (set_same hO).symm, fun q => ?_⟩ <;> omega)
            · refine AW.go 6 (pc' := 74) rfl ?_
              refine AW.getf (pn := 77) rfl rfl flX4_52 (by first | assumption | exact set_self (by first | assumption | exact set_self (by first | assumption | exact set_self (by assumption) | exact set_ne (by first | assumption | decide | omega) (by assumption)) | exact set_ne (by first | assumption | decide | omega) (by first | assumption | exact set_self (by assumption) | exact set_ne (by first | assumption | decide | omega) (by assumption))) | exact set_ne (by first | assumption | decide | omega) (by first | assumption | exact set_self (by first | assumption | exact set_self (by assumption) | exact set_ne (by first | assumption | decide | omega) (by assumption)) | exact set_ne (by first | assumption | decide | omega) (by first | assumption | exact set_self (by assumption) | exact set_ne (by first | assumption | decide | omega) (by assumption)))) rfl ?_
              refine AW.bi (tgt := 99) (pn := 80) rfl (by decide) rfl (by first | exact bI_rng _ | exact ⟨by omega, by omega⟩) (by first | exact bI_rng _ | exact ⟨by omega, by omega⟩) (fun c77 => ?_) (fun c77 => ?_)
              · dsimp only [cmpI] at c77
                refine AW.go 1 (pc' := 100) rfl ?_
                refine AW.ret rfl rfl (Nat.le_refl _) (Nat.le_refl _) ?_
                first
                  | (exfalso; omega)
                  | (have hk : ksg (sga sg pm) = 1 := by omega
                     have hF := ff_at (sga sg pm) pm 1 hk
                     have hN1 := fn_at1 (sga sg pm) pm 1 hk
                     have hN2 := fn_at2 (sga sg pm) pm 1 hk
                     refine ⟨congrArg some ?_, rf, (set_same hO).symm, fun q => ?_⟩ <;> omega)
                  | (have hk : ksg (sga sg pm) = 2 := by omega
                     have hF := ff_at (sga sg pm) pm 2 hk
                     have hN1 := fn_at1 (sga sg pm) pm 2 hk
                     have hN2 := fn_at2 (sga sg pm) pm 2 hk
                     refine ⟨congrArg some ?_, rf, (set_same hO).symm, fun q => ?_⟩ <;> omega)
              · dsimp only [cmpI] at c77
                refine AW.go 1 (pc' := 81) rfl ?_
                refine AW.getf (pn := 84) rfl rfl flX4_16 (by first | assumption | exact set_self (by first | assumption | exact set_self (by first | assumption | exact set_self (by assumption) | exact set_ne (by first | assumption | decide | omega) (by assumption)) | exact set_ne (by first | assumption | decide | omega) (by first | assumption | exact set_self (by assumption) | exact set_ne (by first | assumption | decide | omega) (by assumption))) | exact set_ne (by first | assumption | decide | omega) (by first | assumption | exact set_self (by first | assumption | exact set_self (by assumption) | exact set_ne (by first | assumption | decide | omega) (by assumption)) | exact set_ne (by first | assumption | decide | omega) (by first | assumption | exact set_self (by assumption) | exact set_ne (by first | assumption | decide | omega) (by assumption)))) rfl ?_
                refine AW.go 1 (pc' := 85) rfl ?_
                refine AW.iald (pn := 86) rfl rfl (by first | assumption | exact set_self (by first | assumption | exact set_self (by first | assumption | exact set_self (by assumption) | exact set_ne (by first | assumption | decide | omega) (by assumption)) | exact set_ne (by first | assumption | decide | omega) (by first | assumption | exact set_self (by assumption) | exact set_ne (by first | assumption | decide | omega) (by assumption))) | exact set_ne (by first | assumption | decide | omega) (by first | assumption | exact set_self (by first | assumption | exact set_self (by assumption) | exact set_ne (by first | assumption | decide | omega) (by assumption)) | exact set_ne (by first | assumption | decide | omega) (by first | assumption | exact set_self (by assumption) | exact set_ne (by first | assumption | decide | omega) (by assumption)))) (by decide) (by omega) (by omega) ?_
                refine AW.i2l (pn := 87) rfl rfl (by first | exact bI_rng _ | exact ⟨by omega, by omega⟩) ?_
                refine AW.ldc2 (pn := 90) rfl rfl clX4_56 ?_
                refine AW.ldc2 (pn := 93) rfl rfl clX4_58 ?_
                refine AW.callSF (pn := 96) rfl rfl mlX4_40 (c_X4_in (d - 1) (by omega) _ _ _ _ (by omega) (by omega) (by omega)) rfl rfl (Nat.le_of_ble_eq_true rfl) ⟨by show d - 1 + 1 ≤ d; omega, by show 40 * (d - 1 + 1) ≤ 40 * d; omega⟩ ⟨Nat.zero_le _, Nat.zero_le _⟩ ?_
                refine AW.bnz (tgt := 101) (pn := 99) rfl (by decide) rfl (fun c96 => ?_) (fun c96 => ?_)
                · refine AW.go 1 (pc' := 102) rfl ?_
                  refine AW.getf (pn := 105) rfl rfl flX4_16 (by first | assumption | exact set_self (by first | assumption | exact set_self (by first | assumption | exact set_self (by assumption) | exact set_ne (by first | assumption | decide | omega) (by assumption)) | exact set_ne (by first | assumption | decide | omega) (by first | assumption | exact set_self (by assumption) | exact set_ne (by first | assumption | decide | omega) (by assumption))) | exact set_ne (by first | assumption | decide | omega) (by first | assumption | exact set_self (by first | assumption | exact set_self (by assumption) | exact set_ne (by first | assumption | decide | omega) (by assumption)) | exact set_ne (by first | assumption | decide | omega) (by first | assumption | exact set_self (by assumption) | exact set_ne (by first | assumption | decide | omega) (by assumption)))) rfl ?_
                  refine AW.go 1 (pc' := 106) rfl ?_
                  refine AW.iald (pn := 107) rfl rfl (by first | assumption | exact set_self (by first | assumption | exact set_self (by first | assumption | exact set_self (by assumption) | exact set_ne (by first | assumption | decide | omega) (by assumption)) | exact set_ne (by first | assumption | decide | omega) (by first | assumption | exact set_self (by assumption) | exact set_ne (by first | assumption | decide | omega) (by assumption))) | exact set_ne (by first | assumption | decide | omega) (by first | assumption | exact set_self (by first | assumption | exact set_self (by assumption) | exact set_ne (by first | assumption | decide | omega) (by assumption)) | exact set_ne (by first | assumption | decide | omega) (by first | assumption | exact set_self (by assumption) | exact set_ne (by first | assumption | decide | omega) (by assumption)))) (by decide) (by omega) (by omega) ?_
                  refine AW.go 6 (pc' := 116) rfl ?_
                  refine AW.bi (tgt := 155) (pn := 119) rfl (by decide) rfl (by first | exact bI_rng _ | exact ⟨by omega, by omega⟩) (by first | exact bI_rng _ | exact ⟨by omega, by omega⟩) (fun c116 => ?_) (fun c116 => ?_)
                  · dsimp only [cmpI] at c116
                    refine AW.go 6 (pc' := 162) rfl ?_
                    refine AW.putf (pn := 165) rfl rfl flX4_68 (by first | assumption | exact set_self (by first | assumption | exact set_self (by first | assumption | exact set_self (by assumption) | exact set_ne (by first | assumption | decide | omega) (by assumption)) | exact set_ne (by first | assumption | decide | omega) (by first | assumption | exact set_self (by assumption) | exact set_ne (by first | assumption | decide | omega) (by assumption))) | exact set_ne (by first | assumption | decide | omega) (by first | assumption | exact set_self (by first | assumption | exact set_self (by assumption) | exact set_ne (by first | assumption | decide | omega) (by assumption)) | exact set_ne (by first | assumption | decide | omega) (by first | assumption | exact set_self (by assumption) | exact set_ne (by first | assumption | decide | omega) (by assumption)))) rfl (by first | trivial | exact bI_01 _ | exact Or.inl rfl | exact Or.inr rfl) ?_
                    refine AW.go 2 (pc' := 167) rfl ?_
                    refine AW.getf (pn := 170) rfl rfl flX4_52 (by first | assumption | exact set_self (by first | assumption | exact set_self (by first | assumption | exact set_self (by assumption) | exact set_ne (by first | assumption | decide | omega) (by assumption)) | exact set_ne (by first | assumption | decide | omega) (by first | assumption | exact set_self (by assumption) | exact set_ne (by first | assumption | decide | omega) (by assumption))) | exact set_ne (by first | assumption | decide | omega) (by first | assumption | exact set_self (by first | assumption | exact set_self (by assumption) | exact set_ne (by first | assumption | decide | omega) (by assumption)) | exact set_ne (by first | assumption | decide | omega) (by first | assumption | exact set_self (by assumption) | exact set_ne (by first | assumption | decide | omega) (by assumption)))) rfl ?_
                    refine AW.bi (tgt := 177) (pn := 173) rfl (by decide) rfl (by first | exact bI_rng _ | exact ⟨by omega, by omega⟩) (by first | exact bI_rng _ | exact ⟨by omega, by omega⟩) (fun c170 => ?_) (fun c170 => ?_)
                    · dsimp only [cmpI] at c170
                      refine AW.go 1 (pc' := 179) rfl ?_
                      refine AW.ret rfl rfl (Nat.le_refl _) (Nat.le_refl _) ?_
                      first
                        | (exfalso; omega)
                        | (have hk : ksg (sga sg pm) = 1 := by omega
                           have hF := ff_at (sga sg pm) pm 1 hk
                           have hN1 := fn_at1 (sga sg pm) pm 1 hk
                           have hN2 := fn_at2 (sga sg pm) pm 1 hk
                           refine ⟨congrArg some ?_, _, rfl, fun q => ?_⟩ <;> omega)
                        | (have hk : ksg (sga sg pm) = 2 := by omega
                           have hF := ff_at (sga sg pm) pm 2 hk
                           have hN1 := fn_at1 (sga sg pm) pm 2 hk
                           have hN2 := fn_at2 (sga sg pm) pm 2 hk
                           refine ⟨congrArg some ?_, _, rfl, fun q => ?_⟩ <;> omega)
                    · dsimp only [cmpI] at c170
                      refine AW.go 2 (pc' := 179) rfl ?_
                      refine AW.ret rfl rfl (Nat.le_refl _) (Nat.le_refl _) ?_
                      first
                        | (exfalso; omega)
                        | (have hk : ksg (sga sg pm) = 1 := by omega
                           have hF := ff_at (sga sg pm) pm 1 hk
                           have hN1 := fn_at1 (sga sg pm) pm 1 hk
                           have hN2 := fn_at2 (sga sg pm) pm 1 hk
                           refine ⟨congrArg some ?_, _, rfl, fun q => ?_⟩ <;> omega)
                        | (have hk : ksg (sga sg pm) = 2 := by omega
                           have hF := ff_at (sga sg pm) pm 2 hk
                           have hN1 := fn_at1 (sga sg pm) pm 2 hk
                           have hN2 := fn_at2 (sga sg pm) pm 2 hk
                           refine ⟨congrArg some ?_, _, rfl, fun q => ?_⟩ <;> omega)
                  · dsimp only [cmpI] at c116
                    refine AW.go 3 (pc' := 123) rfl ?_
                    refine AW.callVF (pn := 126) rfl rfl mlX4_64 (by first | assumption | exact set_self (by first | assumption | exact set_self (by first | assumption | exact set_self (by assumption) | exact set_ne (by first | assumption | decide | omega) (by assumption)) | exact set_ne (by first | assumption | decide | omega) (by first | assumption | exact set_self (by assumption) | exact set_ne (by first | assumption | decide | omega) (by assumption))) | exact set_ne (by first | assumption | decide | omega) (by first | assumption | exact set_self (by first | assumption | exact set_self (by assumption) | exact set_ne (by first | assumption | decide | omega) (by assumption)) | exact set_ne (by first | assumption | decide | omega) (by first | assumption | exact set_self (by assumption) | exact set_ne (by first | assumption | decide | omega) (by assumption)))) (c_X4_isSign (d - 1) (by omega) _ _ _ _ _ _ (by first | assumption | exact set_self (by first | assumption | exact set_self (by first | assumption | exact set_self (by assumption) | exact set_ne (by first | assumption | decide | omega) (by assumption)) | exact set_ne (by first | assumption | decide | omega) (by first | assumption | exact set_self (by assumption) | exact set_ne (by first | assumption | decide | omega) (by assumption))) | exact set_ne (by first | assumption | decide | omega) (by first | assumption | exact set_self (by first | assumption | exact set_self (by assumption) | exact set_ne (by first | assumption | decide | omega) (by assumption)) | exact set_ne (by first | assumption | decide | omega) (by first | assumption | exact set_self (by assumption) | exact set_ne (by first | assumption | decide | omega) (by assumption)))) (by omega) _ (by first | assumption | exact set_self (by first | assumption | exact set_self (by first | assumption | exact set_self (by assumption) | exact set_ne (by first | assumption | decide | omega) (by assumption)) | exact set_ne (by first | assumption | decide | omega) (by first | assumption | exact set_self (by assumption) | exact set_ne (by first | assumption | decide | omega) (by assumption))) | exact set_ne (by first | assumption | decide | omega) (by first | assumption | exact set_self (by first | assumption | exact set_self (by assumption) | exact set_ne (by first | assumption | decide | omega) (by assumption)) | exact set_ne (by first | assumption | decide | omega) (by first | assumption | exact set_self (by assumption) | exact set_ne (by first | assumption | decide | omega) (by assumption)))) (by assumption) _ _ (by omega) (by omega)) rfl rfl (Nat.le_of_ble_eq_true rfl) ⟨by show d - 1 + 1 ≤ d; omega, by show 40 * (d - 1 + 1) ≤ 40 * d; omega⟩ ⟨Nat.zero_le _, Nat.zero_le _⟩ ?_
                    refine AW.bnz (tgt := 139) (pn := 129) rfl (by decide) rfl (fun c126 => ?_) (fun c126 => ?_)
                    · refine AW.go 2 (pc' := 142) rfl ?_
                      refine AW.getf (pn := 145) rfl rfl flX4_16 (by first | assumption | exact set_self (by first | assumption | exact set_self (by first | assumption | exact set_self (by assumption) | exact set_ne (by first | assumption | decide | omega) (by assumption)) | exact set_ne (by first | assumption | decide | omega) (by first | assumption | exact set_self (by assumption) | exact set_ne (by first | assumption | decide | omega) (by assumption))) | exact set_ne (by first | assumption | decide | omega) (by first | assumption | exact set_self (by first | assumption | exact set_self (by assumption) | exact set_ne (by first | assumption | decide | omega) (by assumption)) | exact set_ne (by first | assumption | decide | omega) (by first | assumption | exact set_self (by assumption) | exact set_ne (by first | assumption | decide | omega) (by assumption)))) rfl ?_
                      refine AW.go 1 (pc' := 146) rfl ?_
                      refine AW.iald (pn := 147) rfl rfl (by first | assumption | exact set_self (by first | assumption | exact set_self (by first | assumption | exact set_self (by assumption) | exact set_ne (by first | assumption | decide | omega) (by assumption)) | exact set_ne (by first | assumption | decide | omega) (by first | assumption | exact set_self (by assumption) | exact set_ne (by first | assumption | decide | omega) (by assumption))) | exact set_ne (by first | assumption | decide | omega) (by first | assumption | exact set_self (by first | assumption | exact set_self (by assumption) | exact set_ne (by first | assumption | decide | omega) (by assumption)) | exact set_ne (by first | assumption | decide | omega) (by first | assumption | exact set_self (by assumption) | exact set_ne (by first | assumption | decide | omega) (by assumption)))) (by decide) (by omega) (by omega) ?_
                      refine AW.go 11 (pc' := 162) rfl ?_
                      refine AW.putf (pn := 165) rfl rfl flX4_68 (by first | assumption | exact set_self (by first | assumption | exact set_self (by first | assumption | exact set_self (by assumption) | exact set_ne (by first | assumption | decide | omega) (by assumption)) | exact set_ne (by first | assumption | decide | omega) (by first | assumption | exact set_self (by assumption) | exact set_ne (by first | assumption | decide | omega) (by assumption))) | exact set_ne (by first | assumption | decide | omega) (by first | assumption | exact set_self (by first | assumption | exact set_self (by assumption) | exact set_ne (by first | assumption | decide | omega) (by assumption)) | exact set_ne (by first | assumption | decide | omega) (by first | assumption | exact set_self (by assumption) | exact set_ne (by first | assumption | decide | omega) (by assumption)))) rfl (by first | trivial | exact bI_01 _ | exact Or.inl rfl | exact Or.inr rfl) ?_
                      refine AW.go 2 (pc' := 167) rfl ?_
                      refine AW.getf (pn := 170) rfl rfl flX4_52 (by first | assumption | exact set_self (by first | assumption | exact set_self (by first | assumption | exact set_self (by assumption) | exact set_ne (by first | assumption | decide | omega) (by assumption)) | exact set_ne (by first | assumption | decide | omega) (by first | assumption | exact set_self (by assumption) | exact set_ne (by first | assumption | decide | omega) (by assumption))) | exact set_ne (by first | assumption | decide | omega) (by first | assumption | exact set_self (by first | assumption | exact set_self (by assumption) | exact set_ne (by first | assumption | decide | omega) (by assumption)) | exact set_ne (by first | assumption | decide | omega) (by first | assumption | exact set_self (by assumption) | exact set_ne (by first | assumption | decide | omega) (by assumption)))) rfl ?_
                      refine AW.bi (tgt := 177) (pn := 173) rfl (by decide) rfl (by first | exact bI_rng _ | exact ⟨by omega, by omega⟩) (by first | exact bI_rng _ | exact ⟨by omega, by omega⟩) (fun c170 => ?_) (fun c170 => ?_)
                      · dsimp only [cmpI] at c170
                        refine AW.go 1 (pc' := 179) rfl ?_
                        refine AW.ret rfl rfl (Nat.le_refl _) (Nat.le_refl _) ?_
                        first
                          | (exfalso; omega)
                          | (have hk : ksg (sga sg pm) = 1 := by omega
                             have hF := ff_at (sga sg pm) pm 1 hk
                             have hN1 := fn_at1 (sga sg pm) pm 1 hk
                             have hN2 := fn_at2 (sga sg pm) pm 1 hk
                             refine ⟨congrArg some ?_, _, rfl, fun q => ?_⟩ <;> omega)
                          | (have hk : ksg (sga sg pm) = 2 := by omega
                             have hF := ff_at (sga sg pm) pm 2 hk
                             have hN1 := fn_at1 (sga sg pm) pm 2 hk
                             have hN2 := fn_at2 (sga sg pm) pm 2 hk
                             refine ⟨congrArg some ?_, _, rfl, fun q => ?_⟩ <;> omega)
                      · dsimp only [cmpI] at c170
                        refine AW.go 2 (pc' := 179) rfl ?_
                        refine AW.ret rfl rfl (Nat.le_refl _) (Nat.le_refl _) ?_
                        first
                          | (exfalso; omega)
                          | (have hk : ksg (sga sg pm) = 1 := by omega
                             have hF := ff_at (sga sg pm) pm 1 hk
                             have hN1 := fn_at1 (sga sg pm) pm 1 hk
                             have hN2 := fn_at2 (sga sg pm) pm 1 hk
                             refine ⟨congrArg some ?_, _, rfl, fun q => ?_⟩ <;> omega)
                          | (have hk : ksg (sga sg pm) = 2 := by omega
                             have hF := ff_at (sga sg pm) pm 2 hk
                             have hN1 := fn_at1 (sga sg pm) pm 2 hk
                             have hN2 := fn_at2 (sga sg pm) pm 2 hk
                             refine ⟨congrArg some ?_, _, rfl, fun q => ?_⟩ <;> omega)
                    · refine AW.go 3 (pc' := 133) rfl ?_
                      refine AW.callVF (pn := 136) rfl rfl mlX4_64 (by first | assumption | exact set_self (by first | assumption | exact set_self (by first | assumption | exact set_self (by assumption) | exact set_ne (by first | assumption | decide | omega) (by assumption)) | exact set_ne (by first | assumption | decide | omega) (by first | assumption | exact set_self (by assumption) | exact set_ne (by first | assumption | decide | omega) (by assumption))) | exact set_ne (by first | assumption | decide | omega) (by first | assumption | exact set_self (by first | assumption | exact set_self (by assumption) | exact set_ne (by first | assumption | decide | omega) (by assumption)) | exact set_ne (by first | assumption | decide | omega) (by first | assumption | exact set_self (by assumption) | exact set_ne (by first | assumption | decide | omega) (by assumption)))) (c_X4_isSign (d - 1) (by omega) _ _ _ _ _ _ (by first | assumption | exact set_self (by first | assumption | exact set_self (by first | assumption | exact set_self (by assumption) | exact set_ne (by first | assumption | decide | omega) (by assumption)) | exact set_ne (by first | assumption | decide | omega) (by first | assumption | exact set_self (by assumption) | exact set_ne (by first | assumption | decide | omega) (by assumption))) | exact set_ne (by first | assumption | decide | omega) (by first | assumption | exact set_self (by first | assumption | exact set_self (by assumption) | exact set_ne (by first | assumption | decide | omega) (by assumption)) | exact set_ne (by first | assumption | decide | omega) (by first | assumption | exact set_self (by assumption) | exact set_ne (by first | assumption | decide | omega) (by assumption)))) (by omega) _ (by first | assumption | exact set_self (by first | assumption | exact set_self (by first | assumption | exact set_self (by assumption) | exact set_ne (by first | assumption | decide | omega) (by assumption)) | exact set_ne (by first | assumption | decide | omega) (by first | assumption | exact set_self (by assumption) | exact set_ne (by first | assumption | decide | omega) (by assumption))) | exact set_ne (by first | assumption | decide | omega) (by first | assumption | exact set_self (by first | assumption | exact set_self (by assumption) | exact set_ne (by first | assumption | decide | omega) (by assumption)) | exact set_ne (by first | assumption | decide | omega) (by first | assumption | exact set_self (by assumption) | exact set_ne (by first | assumption | decide | omega) (by assumption)))) (by assumption) _ _ (by omega) (by omega)) rfl rfl (Nat.le_of_ble_eq_true rfl) ⟨by show d - 1 + 1 ≤ d; omega, by show 40 * (d - 1 + 1) ≤ 40 * d; omega⟩ ⟨Nat.zero_le _, Nat.zero_le _⟩ ?_
                      refine AW.bz (tgt := 155) (pn := 139) rfl (by decide) rfl (fun c136 => ?_) (fun c136 => ?_)
                      · refine AW.go 6 (pc' := 162) rfl ?_
                        refine AW.putf (pn := 165) rfl rfl flX4_68 (by first | assumption | exact set_self (by first | assumption | exact set_self (by first | assumption | exact set_self (by assumption) | exact set_ne (by first | assumption | decide | omega) (by assumption)) | exact set_ne (by first | assumption | decide | omega) (by first | assumption | exact set_self (by assumption) | exact set_ne (by first | assumption | decide | omega) (by assumption))) | exact set_ne (by first | assumption | decide | omega) (by first | assumption | exact set_self (by first | assumption | exact set_self (by assumption) | exact set_ne (by first | assumption | decide | omega) (by assumption)) | exact set_ne (by first | assumption | decide | omega) (by first | assumption | exact set_self (by assumption) | exact set_ne (by first | assumption | decide | omega) (by assumption)))) rfl (by first | trivial | exact bI_01 _ | exact Or.inl rfl | exact Or.inr rfl) ?_
                        refine AW.go 2 (pc' := 167) rfl ?_
                        refine AW.getf (pn := 170) rfl rfl flX4_52 (by first | assumption | exact set_self (by first | assumption | exact set_self (by first | assumption | exact set_self (by assumption) | exact set_ne (by first | assumption | decide | omega) (by assumption)) | exact set_ne (by first | assumption | decide | omega) (by first | assumption | exact set_self (by assumption) | exact set_ne (by first | assumption | decide | omega) (by assumption))) | exact set_ne (by first | assumption | decide | omega) (by first | assumption | exact set_self (by first | assumption | exact set_self (by assumption) | exact set_ne (by first | assumption | decide | omega) (by assumption)) | exact set_ne (by first | assumption | decide | omega) (by first | assumption | exact set_self (by assumption) | exact set_ne (by first | assumption | decide | omega) (by assumption)))) rfl ?_
                        refine AW.bi (tgt := 177) (pn := 173) rfl (by decide) rfl (by first | exact bI_rng _ | exact ⟨by omega, by omega⟩) (by first | exact bI_rng _ | exact ⟨by omega, by omega⟩) (fun c170 => ?_) (fun c170 => ?_)
                        · dsimp only [cmpI] at c170
                          refine AW.go 1 (pc' := 179) rfl ?_
                          refine AW.ret rfl rfl (Nat.le_refl _) (Nat.le_refl _) ?_
                          first
                            | (exfalso; omega)
                            | (have hk : ksg (sga sg pm) = 1 := by omega
                               have hF := ff_at (sga sg pm) pm 1 hk
                               have hN1 := fn_at1 (sga sg pm) pm 1 hk
                               have hN2 := fn_at2 (sga sg pm) pm 1 hk
                               refine ⟨congrArg some ?_, _, rfl, fun q => ?_⟩ <;> omega)
                            | (have hk : ksg (sga sg pm) = 2 := by omega
                               have hF := ff_at (sga sg pm) pm 2 hk
                               have hN1 := fn_at1 (sga sg pm) pm 2 hk
                               have hN2 := fn_at2 (sga sg pm) pm 2 hk
                               refine ⟨congrArg some ?_, _, rfl, fun q => ?_⟩ <;> omega)
                        · dsimp only [cmpI] at c170
                          refine AW.go 2 (pc' := 179) rfl ?_
                          refine AW.ret rfl rfl (Nat.le_refl _) (Nat.le_refl _) ?_
                          first
                            | (exfalso; omega)
                            | (have hk : ksg (sga sg pm) = 1 := by omega
                               have hF := ff_at (sga sg pm) pm 1 hk
                               have hN1 := fn_at1 (sga sg pm) pm 1 hk
                               have hN2 := fn_at2 (sga sg pm) pm 1 hk
                               refine ⟨congrArg some ?_, _, rfl, fun q => ?_⟩ <;> omega)
                            | (have hk : ksg (sga sg pm) = 2 := by omega
                               have hF := ff_at (sga sg pm) pm 2 hk
                               have hN1 := fn_at1 (sga sg pm) pm 2 hk
                               have hN2 := fn_at2 (sga sg pm) pm 2 hk
                               refine ⟨congrArg some ?_, _, rfl, fun q => ?_⟩ <;> omega)
                      · refine AW.go 2 (pc' := 142) rfl ?_
                        refine AW.getf (pn := 145) rfl rfl flX4_16 (by first | assumption | exact set_self (by first | assumption | exact set_self (by first | assumption | exact set_self (by assumption) | exact set_ne (by first | assumption | decide | omega) (by assumption)) | exact set_ne (by first | assumption | decide | omega) (by first | assumption | exact set_self (by assumption) | exact set_ne (by first | assumption | decide | omega) (by assumption))) | exact set_ne (by first | assumption | decide | omega) (by first | assumption | exact set_self (by first | assumption | exact set_self (by assumption) | exact set_ne (by first | assumption | decide | omega) (by assumption)) | exact set_ne (by first | assumption | decide | omega) (by first | assumption | exact set_self (by assumption) | exact set_ne (by first | assumption | decide | omega) (by assumption)))) rfl ?_
                        refine AW.go 1 (pc' := 146) rfl ?_
                        refine AW.iald (pn := 147) rfl rfl (by first | assumption | exact set_self (by first | assumption | exact set_self (by first | assumption | exact set_self (by assumption) | exact set_ne (by first | assumption | decide | omega) (by assumption)) | exact set_ne (by first | assumption | decide | omega) (by first | assumption | exact set_self (by assumption) | exact set_ne (by first | assumption | decide | omega) (by assumption))) | exact set_ne (by first | assumption | decide | omega) (by first | assumption | exact set_self (by first | assumption | exact set_self (by assumption) | exact set_ne (by first | assumption | decide | omega) (by assumption)) | exact set_ne (by first | assumption | decide | omega) (by first | assumption | exact set_self (by assumption) | exact set_ne (by first | assumption | decide | omega) (by assumption)))) (by decide) (by omega) (by omega) ?_
                        refine AW.go 11 (pc' := 162) rfl ?_
                        refine AW.putf (pn := 165) rfl rfl flX4_68 (by first | assumption | exact set_self (by first | assumption | exact set_self (by first | assumption | exact set_self (by assumption) | exact set_ne (by first | assumption | decide | omega) (by assumption)) | exact set_ne (by first | assumption | decide | omega) (by first | assumption | exact set_self (by assumption) | exact set_ne (by first | assumption | decide | omega) (by assumption))) | exact set_ne (by first | assumption | decide | omega) (by first | assumption | exact set_self (by first | assumption | exact set_self (by assumption) | exact set_ne (by first | assumption | decide | omega) (by assumption)) | exact set_ne (by first | assumption | decide | omega) (by first | assumption | exact set_self (by assumption) | exact set_ne (by first | assumption | decide | omega) (by assumption)))) rfl (by first | trivial | exact bI_01 _ | exact Or.inl rfl | exact Or.inr rfl) ?_
                        refine AW.go 2 (pc' := 167) rfl ?_
                        refine AW.getf (pn := 170) rfl rfl flX4_52 (by first | assumption | exact set_self (by first | assumption | exact set_self (by first | assumption | exact set_self (by assumption) | exact set_ne (by first | assumption | decide | omega) (by assumption)) | exact set_ne (by first | assumption | decide | omega) (by first | assumption | exact set_self (by assumption) | exact set_ne (by first | assumption | decide | omega) (by assumption))) | exact set_ne (by first | assumption | decide | omega) (by first | assumption | exact set_self (by first | assumption | exact set_self (by assumption) | exact set_ne (by first | assumption | decide | omega) (by assumption)) | exact set_ne (by first | assumption | decide | omega) (by first | assumption | exact set_self (by assumption) | exact set_ne (by first | assumption | decide | omega) (by assumption)))) rfl ?_
                        refine AW.bi (tgt := 177) (pn := 173) rfl (by decide) rfl (by first | exact bI_rng _ | exact ⟨by omega, by omega⟩) (by first | exact bI_rng _ | exact ⟨by omega, by omega⟩) (fun c170 => ?_) (fun c170 => ?_)
                        · dsimp only [cmpI] at c170
                          refine AW.go 1 (pc' := 179) rfl ?_
                          refine AW.ret rfl rfl (Nat.le_refl _) (Nat.le_refl _) ?_
                          first
                            | (exfalso; omega)
                            | (have hk : ksg (sga sg pm) = 1 := by omega
                               have hF := ff_at (sga sg pm) pm 1 hk
                               have hN1 := fn_at1 (sga sg pm) pm 1 hk
                               have hN2 := fn_at2 (sga sg pm) pm 1 hk
                               refine ⟨congrArg some ?_, _, rfl, fun q => ?_⟩ <;> omega)
                            | (have hk : ksg (sga sg pm) = 2 := by omega
                               have hF := ff_at (sga sg pm) pm 2 hk
                               have hN1 := fn_at1 (sga sg pm) pm 2 hk
                               have hN2 := fn_at2 (sga sg pm) pm 2 hk
                               refine ⟨congrArg some ?_, _, rfl, fun q => ?_⟩ <;> omega)
                        · dsimp only [cmpI] at c170
                          refine AW.go 2 (pc' := 179) rfl ?_
                          refine AW.ret rfl rfl (Nat.le_refl _) (Nat.le_refl _) ?_
                          first
                            | (exfalso; omega)
                            | (have hk : ksg (sga sg pm) = 1 := by omega
                               have hF := ff_at (sga sg pm) pm 1 hk
                               have hN1 := fn_at1 (sga sg pm) pm 1 hk
                               have hN2 := fn_at2 (sga sg pm) pm 1 hk
                               refine ⟨congrArg some ?_, _, rfl, fun q => ?_⟩ <;> omega)
                            | (have hk : ksg (sga sg pm) = 2 := by omega
                               have hF := ff_at (sga sg pm) pm 2 hk
                               have hN1 := fn_at1 (sga sg pm) pm 2 hk
                               have hN2 := fn_at2 (sga sg pm) pm 2 hk
                               refine ⟨congrArg some ?_, _, rfl, fun q => ?_⟩ <;> omega)
                · refine AW.go 1 (pc' := 100) rfl ?_
                  refine AW.ret rfl rfl (Nat.le_refl _) (Nat.le_refl _) ?_
                  first
                    | (exfalso; omega)
                    | (have hk : ksg (sga sg pm) = 1 := by omega
                       have hF := ff_at (sga sg pm) pm 1 hk
                       have hN1 := fn_at1 (sga sg pm) pm 1 hk
                       have hN2 := fn_at2 (sga sg pm) pm 1 hk
                       refine ⟨congrArg some ?_, rf, (set_same hO).symm, fun q => ?_⟩ <;> omega)
                    | (have hk : ksg (sga sg pm) = 2 := by omega
                       have hF := ff_at (sga sg pm) pm 2 hk
                       have hN1 := fn_at1 (sga sg pm) pm 2 hk
                       have hN2 := fn_at2 (sga sg pm) pm 2 hk
                       refine ⟨congrArg some ?_, rf, (set_same hO).symm, fun q => ?_⟩ <;> omega)
        · dsimp only [cmpI] at c46
          refine AW.go 1 (pc' := 50) rfl ?_
          refine AW.ret rfl rfl (Nat.le_refl _) (Nat.le_refl _) ?_
          first
            | (exfalso; omega)
            | (have hk : ksg (sga sg pm) = 0 := by omega
               have hF := ff_at (sga sg pm) pm 0 hk
               refine ⟨congrArg some ?_, rf, (set_same hO).symm, fun q => ?_⟩ <;> omega)
    · refine AW.go 4 (pc' := 46) rfl ?_
      refine AW.br (tgt := 51) (pn := 49) rfl (by decide) rfl (by first | exact bI_rng _ | exact ⟨by omega, by omega⟩) (fun c46 => ?_) (fun c46 => ?_)
      · dsimp only [cmpI] at c46
        refine AW.go 4 (pc' := 55) rfl ?_
        refine AW.bi (tgt := 72) (pn := 58) rfl (by decide) rfl (by first | exact bI_rng _ | exact ⟨by omega, by omega⟩) (by first | exact bI_rng _ | exact ⟨by omega, by omega⟩) (fun c55 => ?_) (fun c55 => ?_)
        · dsimp only [cmpI] at c55
          refine AW.go 2 (pc' := 74) rfl ?_
          refine AW.getf (pn := 77) rfl rfl flX4_52 (by first | assumption | exact set_self (by first | assumption | exact set_self (by first | assumption | exact set_self (by assumption) | exact set_ne (by first | assumption | decide | omega) (by assumption)) | exact set_ne (by first | assumption | decide | omega) (by first | assumption | exact set_self (by assumption) | exact set_ne (by first | assumption | decide | omega) (by assumption))) | exact set_ne (by first | assumption | decide | omega) (by first | assumption | exact set_self (by first | assumption | exact set_self (by assumption) | exact set_ne (by first | assumption | decide | omega) (by assumption)) | exact set_ne (by first | assumption | decide | omega) (by first | assumption | exact set_self (by assumption) | exact set_ne (by first | assumption | decide | omega) (by assumption)))) rfl ?_
          refine AW.bi (tgt := 99) (pn := 80) rfl (by decide) rfl (by first | exact bI_rng _ | exact ⟨by omega, by omega⟩) (by first | exact bI_rng _ | exact ⟨by omega, by omega⟩) (fun c77 => ?_) (fun c77 => ?_)
          · dsimp only [cmpI] at c77
            refine AW.go 1 (pc' := 100) rfl ?_
            refine AW.ret rfl rfl (Nat.le_refl _) (Nat.le_refl _) ?_
            first
              | (exfalso; omega)
              | (have hk : ksg (sga sg pm) = 1 := by omega
                 have hF := ff_at (sga sg pm) pm 1 hk
                 have hN1 := fn_at1 (sga sg pm) pm 1 hk
                 have hN2 := fn_at2 (sga sg pm) pm 1 hk
                 refine ⟨congrArg some ?_, rf, (set_same hO).symm, fun q => ?_⟩ <;> omega)
              | (have hk : ksg (sga sg pm) = 2 := by omega
                 have hF := ff_at (sga sg pm) pm 2 hk
                 have hN1 := fn_at1 (sga sg pm) pm 2 hk
                 have hN2 := fn_at2 (sga sg pm) pm 2 hk
                 refine ⟨congrArg some ?_, rf, (set_same hO).symm, fun q => ?_⟩ <;> omega)
          · dsimp only [cmpI] at c77
            refine AW.go 1 (pc' := 81) rfl ?_
            refine AW.getf (pn := 84) rfl rfl flX4_16 (by first | assumption | exact set_self (by first | assumption | exact set_self (by first | assumption | exact set_self (by assumption) | exact set_ne (by first | assumption | decide | omega) (by assumption)) | exact set_ne (by first | assumption | decide | omega) (by first | assumption | exact set_self (by assumption) | exact set_ne (by first | assumption | decide | omega) (by assumption))) | exact set_ne (by first | assumption | decide | omega) (by first | assumption | exact set_self (by first | assumption | exact set_self (by assumption) | exact set_ne (by first | assumption | decide | omega) (by assumption)) | exact set_ne (by first | assumption | decide | omega) (by first | assumption | exact set_self (by assumption) | exact set_ne (by first | assumption | decide | omega) (by assumption)))) rfl ?_
            refine AW.go 1 (pc' := 85) rfl ?_
            refine AW.iald (pn := 86) rfl rfl (by first | assumption | exact set_self (by first | assumption | exact set_self (by first | assumption | exact set_self (by assumption) | exact set_ne (by first | assumption | decide | omega) (by assumption)) | exact set_ne (by first | assumption | decide | omega) (by first | assumption | exact set_self (by assumption) | exact set_ne (by first | assumption | decide | omega) (by assumption))) | exact set_ne (by first | assumption | decide | omega) (by first | assumption | exact set_self (by first | assumption | exact set_self (by assumption) | exact set_ne (by first | assumption | decide | omega) (by assumption)) | exact set_ne (by first | assumption | decide | omega) (by first | assumption | exact set_self (by assumption) | exact set_ne (by first | assumption | decide | omega) (by assumption)))) (by decide) (by omega) (by omega) ?_
            refine AW.i2l (pn := 87) rfl rfl (by first | exact bI_rng _ | exact ⟨by omega, by omega⟩) ?_
            refine AW.ldc2 (pn := 90) rfl rfl clX4_56 ?_
            refine AW.ldc2 (pn := 93) rfl rfl clX4_58 ?_
            refine AW.callSF (pn := 96) rfl rfl mlX4_40 (c_X4_in (d - 1) (by omega) _ _ _ _ (by omega) (by omega) (by omega)) rfl rfl (Nat.le_of_ble_eq_true rfl) ⟨by show d - 1 + 1 ≤ d; omega, by show 40 * (d - 1 + 1) ≤ 40 * d; omega⟩ ⟨Nat.zero_le _, Nat.zero_le _⟩ ?_
            refine AW.bnz (tgt := 101) (pn := 99) rfl (by decide) rfl (fun c96 => ?_) (fun c96 => ?_)
            · refine AW.go 1 (pc' := 102) rfl ?_
              refine AW.getf (pn := 105) rfl rfl flX4_16 (by first | assumption | exact set_self (by first | assumption | exact set_self (by first | assumption | exact set_self (by assumption) | exact set_ne (by first | assumption | decide | omega) (by assumption)) | exact set_ne (by first | assumption | decide | omega) (by first | assumption | exact set_self (by assumption) | exact set_ne (by first | assumption | decide | omega) (by assumption))) | exact set_ne (by first | assumption | decide | omega) (by first | assumption | exact set_self (by first | assumption | exact set_self (by assumption) | exact set_ne (by first | assumption | decide | omega) (by assumption)) | exact set_ne (by first | assumption | decide | omega) (by first | assumption | exact set_self (by assumption) | exact set_ne (by first | assumption | decide | omega) (by assumption)))) rfl ?_
              refine AW.go 1 (pc' := 106) rfl ?_
              refine AW.iald (pn := 107) rfl rfl (by first | assumption | exact set_self (by first | assumption | exact set_self (by first | assumption | exact set_self (by assumption) | exact set_ne (by first | assumption | decide | omega) (by assumption)) | exact set_ne (by first | assumption | decide | omega) (by first | assumption | exact set_self (by assumption) | exact set_ne (by first | assumption | decide | omega) (by assumption))) | exact set_ne (by first | assumption | decide | omega) (by first | assumption | exact set_self (by first | assumption | exact set_self (by assumption) | exact set_ne (by first | assumption | decide | omega) (by assumption)) | exact set_ne (by first | assumption | decide | omega) (by first | assumption | exact set_self (by assumption) | exact set_ne (by first | assumption | decide | omega) (by assumption)))) (by decide) (by omega) (by omega) ?_
              refine AW.go 6 (pc' := 116) rfl ?_
              refine AW.bi (tgt := 155) (pn := 119) rfl (by decide) rfl (by first | exact bI_rng _ | exact ⟨by omega, by omega⟩) (by first | exact bI_rng _ | exact ⟨by omega, by omega⟩) (fun c116 => ?_) (fun c116 => ?_)
              · dsimp only [cmpI] at c116
                refine AW.go 6 (pc' := 162) rfl ?_
                refine AW.putf (pn := 165) rfl rfl flX4_68 (by first | assumption | exact set_self (by first | assumption | exact set_self (by first | assumption | exact set_self (by assumption) | exact set_ne (by first | assumption | decide | omega) (by assumption)) | exact set_ne (by first | assumption | decide | omega) (by first | assumption | exact set_self (by assumption) | exact set_ne (by first | assumption | decide | omega) (by assumption))) | exact set_ne (by first | assumption | decide | omega) (by first | assumption | exact set_self (by first | assumption | exact set_self (by assumption) | exact set_ne (by first | assumption | decide | omega) (by assumption)) | exact set_ne (by first | assumption | decide | omega) (by first | assumption | exact set_self (by assumption) | exact set_ne (by first | assumption | decide | omega) (by assumption)))) rfl (by first | trivial | exact bI_01 _ | exact Or.inl rfl | exact Or.inr rfl) ?_
                refine AW.go 2 (pc' := 167) rfl ?_
                refine AW.getf (pn := 170) rfl rfl flX4_52 (by first | assumption | exact set_self (by first | assumption | exact set_self (by first | assumption | exact set_self (by assumption) | exact set_ne (by first | assumption | decide | omega) (by assumption)) | exact set_ne (by first | assumption | decide | omega) (by first | assumption | exact set_self (by assumption) | exact set_ne (by first | assumption | decide | omega) (by assumption))) | exact set_ne (by first | assumption | decide | omega) (by first | assumption | exact set_self (by first | assumption | exact set_self (by assumption) | exact set_ne (by first | assumption | decide | omega) (by assumption)) | exact set_ne (by first | assumption | decide | omega) (by first | assumption | exact set_self (by assumption) | exact set_ne (by first | assumption | decide | omega) (by assumption)))) rfl ?_
                refine AW.bi (tgt := 177) (pn := 173) rfl (by decide) rfl (by first | exact bI_rng _ | exact ⟨by omega, by omega⟩) (by first | exact bI_rng _ | exact ⟨by omega, by omega⟩) (fun c170 => ?_) (fun c170 => ?_)
                · dsimp only [cmpI] at c170
                  refine AW.go 1 (pc' := 179) rfl ?_
                  refine AW.ret rfl rfl (Nat.le_refl _) (Nat.le_refl _) ?_
                  first
                    | (exfalso; omega)
                    | (have hk : ksg (sga sg pm) = 1 := by omega
                       have hF := ff_at (sga sg pm) pm 1 hk
                       have hN1 := fn_at1 (sga sg pm) pm 1 hk
                       have hN2 := fn_at2 (sga sg pm) pm 1 hk
                       refine ⟨congrArg some ?_, _, rfl, fun q => ?_⟩ <;> omega)
                    | (have hk : ksg (sga sg pm) = 2 := by omega
                       have hF := ff_at (sga sg pm) pm 2 hk
                       have hN1 := fn_at1 (sga sg pm) pm 2 hk
                       have hN2 := fn_at2 (sga sg pm) pm 2 hk
                       refine ⟨congrArg some ?_, _, rfl, fun q => ?_⟩ <;> omega)
                · dsimp only [cmpI] at c170
                  refine AW.go 2 (pc' := 179) rfl ?_
                  refine AW.ret rfl rfl (Nat.le_refl _) (Nat.le_refl _) ?_
                  first
                    | (exfalso; omega)
                    | (have hk : ksg (sga sg pm) = 1 := by omega
                       have hF := ff_at (sga sg pm) pm 1 hk
                       have hN1 := fn_at1 (sga sg pm) pm 1 hk
                       have hN2 := fn_at2 (sga sg pm) pm 1 hk
                       refine ⟨congrArg some ?_, _, rfl, fun q => ?_⟩ <;> omega)
                    | (have hk : ksg (sga sg pm) = 2 := by omega
                       have hF := ff_at (sga sg pm) pm 2 hk
                       have hN1 := fn_at1 (sga sg pm) pm 2 hk
                       have hN2 := fn_at2 (sga sg pm) pm 2 hk
                       refine ⟨congrArg some ?_, _, rfl, fun q => ?_⟩ <;> omega)
              · dsimp only [cmpI] at c116
                refine AW.go 3 (pc' := 123) rfl ?_
                refine AW.callVF (pn := 126) rfl rfl mlX4_64 (by first | assumption | exact set_self (by first | assumption | exact set_self (by first | assumption | exact set_self (by assumption) | exact set_ne (by first | assumption | decide | omega) (by assumption)) | exact set_ne (by first | assumption | decide | omega) (by first | assumption | exact set_self (by assumption) | exact set_ne (by first | assumption | decide | omega) (by assumption))) | exact set_ne (by first | assumption | decide | omega) (by first | assumption | exact set_self (by first | assumption | exact set_self (by assumption) | exact set_ne (by first | assumption | decide | omega) (by assumption)) | exact set_ne (by first | assumption | decide | omega) (by first | assumption | exact set_self (by assumption) | exact set_ne (by first | assumption | decide | omega) (by assumption)))) (c_X4_isSign (d - 1) (by omega) _ _ _ _ _ _ (by first | assumption | exact set_self (by first | assumption | exact set_self (by first | assumption | exact set_self (by assumption) | exact set_ne (by first | assumption | decide | omega) (by assumption)) | exact set_ne (by first | assumption | decide | omega) (by first | assumption | exact set_self (by assumption) | exact set_ne (by first | assumption | decide | omega) (by assumption))) | exact set_ne (by first | assumption | decide | omega) (by first | assumption | exact set_self (by first | assumption | exact set_self (by assumption) | exact set_ne (by first | assumption | decide | omega) (by assumption)) | exact set_ne (by first | assumption | decide | omega) (by first | assumption | exact set_self (by assumption) | exact set_ne (by first | assumption | decide | omega) (by assumption)))) (by omega) _ (by first | assumption | exact set_self (by first | assumption | exact set_self (by first | assumption | exact set_self (by assumption) | exact set_ne (by first | assumption | decide | omega) (by assumption)) | exact set_ne (by first | assumption | decide | omega) (by first | assumption | exact set_self (by assumption) | exact set_ne (by first | assumption | decide | omega) (by assumption))) | exact set_ne (by first | assumption | decide | omega) (by first | assumption | exact set_self (by first | assumption | exact set_self (by assumption) | exact set_ne (by first | assumption | decide | omega) (by assumption)) | exact set_ne (by first | assumption | decide | omega) (by first | assumption | exact set_self (by assumption) | exact set_ne (by first | assumption | decide | omega) (by assumption)))) (by assumption) _ _ (by omega) (by omega)) rfl rfl (Nat.le_of_ble_eq_true rfl) ⟨by show d - 1 + 1 ≤ d; omega, by show 40 * (d - 1 + 1) ≤ 40 * d; omega⟩ ⟨Nat.zero_le _, Nat.zero_le _⟩ ?_
                refine AW.bnz (tgt := 139) (pn := 129) rfl (by decide) rfl (fun c126 => ?_) (fun c126 => ?_)
                · refine AW.go 2 (pc' := 142) rfl ?_
                  refine AW.getf (pn := 145) rfl rfl flX4_16 (by first | assumption | exact set_self (by first | assumption | exact set_self (by first | assumption | exact set_self (by assumption) | exact set_ne (by first | assumption | decide | omega) (by assumption)) | exact set_ne (by first | assumption | decide | omega) (by first | assumption | exact set_self (by assumption) | exact set_ne (by first | assumption | decide | omega) (by assumption))) | exact set_ne (by first | assumption | decide | omega) (by first | assumption | exact set_self (by first | assumption | exact set_self (by assumption) | exact set_ne (by first | assumption | decide | omega) (by assumption)) | exact set_ne (by first | assumption | decide | omega) (by first | assumption | exact set_self (by assumption) | exact set_ne (by first | assumption | decide | omega) (by assumption)))) rfl ?_
                  refine AW.go 1 (pc' := 146) rfl ?_
                  refine AW.iald (pn := 147) rfl rfl (by first | assumption | exact set_self (by first | assumption | exact set_self (by first | assumption | exact set_self (by assumption) | exact set_ne (by first | assumption | decide | omega) (by assumption)) | exact set_ne (by first | assumption | decide | omega) (by first | assumption | exact set_self (by assumption) | exact set_ne (by first | assumption | decide | omega) (by assumption))) | exact set_ne (by first | assumption | decide | omega) (by first | assumption | exact set_self (by first | assumption | exact set_self (by assumption) | exact set_ne (by first | assumption | decide | omega) (by assumption)) | exact set_ne (by first | assumption | decide | omega) (by first | assumption | exact set_self (by assumption) | exact set_ne (by first | assumption | decide | omega) (by assumption)))) (by decide) (by omega) (by omega) ?_
                  refine AW.go 11 (pc' := 162) rfl ?_
                  refine AW.putf (pn := 165) rfl rfl flX4_68 (by first | assumption | exact set_self (by first | assumption | exact set_self (by first | assumption | exact set_self (by assumption) | exact set_ne (by first | assumption | decide | omega) (by assumption)) | exact set_ne (by first | assumption | decide | omega) (by first | assumption | exact set_self (by assumption) | exact set_ne (by first | assumption | decide | omega) (by assumption))) | exact set_ne (by first | assumption | decide | omega) (by first | assumption | exact set_self (by first | assumption | exact set_self (by assumption) | exact set_ne (by first | assumption | decide | omega) (by assumption)) | exact set_ne (by first | assumption | decide | omega) (by first | assumption | exact set_self (by assumption) | exact set_ne (by first | assumption | decide | omega) (by assumption)))) rfl (by first | trivial | exact bI_01 _ | exact Or.inl rfl | exact Or.inr rfl) ?_
                  refine AW.go 2 (pc' := 167) rfl ?_
                  refine AW.getf (pn := 170) rfl rfl flX4_52 (by first | assumption | exact set_self (by first | assumption | exact set_self (by first | assumption | exact set_self (by assumption) | exact set_ne (by first | assumption | decide | omega) (by assumption)) | exact set_ne (by first | assumption | decide | omega) (by first | assumption | exact set_self (by assumption) | exact set_ne (by first | assumption | decide | omega) (by assumption))) | exact set_ne (by first | assumption | decide | omega) (by first | assumption | exact set_self (by first | assumption | exact set_self (by assumption) | exact set_ne (by first | assumption | decide | omega) (by assumption)) | exact set_ne (by first | assumption | decide | omega) (by first | assumption | exact set_self (by assumption) | exact set_ne (by first | assumption | decide | omega) (by assumption)))) rfl ?_
                  refine AW.bi (tgt := 177) (pn := 173) rfl (by decide) rfl (by first | exact bI_rng _ | exact ⟨by omega, by omega⟩) (by first | exact bI_rng _ | exact ⟨by omega, by omega⟩) (fun c170 => ?_) (fun c170 => ?_)
                  · dsimp only [cmpI] at c170
                    refine AW.go 1 (pc' := 179) rfl ?_
                    refine AW.ret rfl rfl (Nat.le_refl _) (Nat.le_refl _) ?_
                    first
                      | (exfalso; omega)
                      | (have hk : ksg (sga sg pm) = 1 := by omega
                         have hF := ff_at (sga sg pm) pm 1 hk
                         have hN1 := fn_at1 (sga sg pm) pm 1 hk
                         have hN2 := fn_at2 (sga sg pm) pm 1 hk
                         refine ⟨congrArg some ?_, _, rfl, fun q => ?_⟩ <;> omega)
                      | (have hk : ksg (sga sg pm) = 2 := by omega
                         have hF := ff_at (sga sg pm) pm 2 hk
                         have hN1 := fn_at1 (sga sg pm) pm 2 hk
                         have hN2 := fn_at2 (sga sg pm) pm 2 hk
                         refine ⟨congrArg some ?_, _, rfl, fun q => ?_⟩ <;> omega)
                  · dsimp only [cmpI] at c170
                    refine AW.go 2 (pc' := 179) rfl ?_
                    refine AW.ret rfl rfl (Nat.le_refl _) (Nat.le_refl _) ?_
                    first
                      | (exfalso; omega)
                      | (have hk : ksg (sga sg pm) = 1 := by omega
                         have hF := ff_at (sga sg pm) pm 1 hk
                         have hN1 := fn_at1 (sga sg pm) pm 1 hk
                         have hN2 := fn_at2 (sga sg pm) pm 1 hk
                         refine ⟨congrArg some ?_, _, rfl, fun q => ?_⟩ <;> omega)
                      | (have hk : ksg (sga sg pm) = 2 := by omega
                         have hF := ff_at (sga sg pm) pm 2 hk
                         have hN1 := fn_at1 (sga sg pm) pm 2 hk
                         have hN2 := fn_at2 (sga sg pm) pm 2 hk
                         refine ⟨congrArg some ?_, _, rfl, fun q => ?_⟩ <;> omega)
                · refine AW.go 3 (pc' := 133) rfl ?_
                  refine AW.callVF (pn := 136) rfl rfl mlX4_64 (by first | assumption | exact set_self (by first | assumption | exact set_self (by first | assumption | exact set_self (by assumption) | exact set_ne (by first | assumption | decide | omega) (by assumption)) | exact set_ne (by first | assumption | decide | omega) (by first | assumption | exact set_self (by assumption) | exact set_ne (by first | assumption | decide | omega) (by assumption))) | exact set_ne (by first | assumption | decide | omega) (by first | assumption | exact set_self (by first | assumption | exact set_self (by assumption) | exact set_ne (by first | assumption | decide | omega) (by assumption)) | exact set_ne (by first | assumption | decide | omega) (by first | assumption | exact set_self (by assumption) | exact set_ne (by first | assumption | decide | omega) (by assumption)))) (c_X4_isSign (d - 1) (by omega) _ _ _ _ _ _ (by first | assumption | exact set_self (by first | assumption | exact set_self (by first | assumption | exact set_self (by assumption) | exact set_ne (by first | assumption | decide | omega) (by assumption)) | exact set_ne (by first | assumption | decide | omega) (by first | assumption | exact set_self (by assumption) | exact set_ne (by first | assumption | decide | omega) (by assumption))) | exact set_ne (by first | assumption | decide | omega) (by first | assumption | exact set_self (by first | assumption | exact set_self (by assumption) | exact set_ne (by first | assumption | decide | omega) (by assumption)) | exact set_ne (by first | assumption | decide | omega) (by first | assumption | exact set_self (by assumption) | exact set_ne (by first | assumption | decide | omega) (by assumption)))) (by omega) _ (by first | assumption | exact set_self (by first | assumption | exact set_self (by first | assumption | exact set_self (by assumption) | exact set_ne (by first | assumption | decide | omega) (by assumption)) | exact set_ne (by first | assumption | decide | omega) (by first | assumption | exact set_self (by assumption) | exact set_ne (by first | assumption | decide | omega) (by assumption))) | exact set_ne (by first | assumption | decide | omega) (by first | assumption | exact set_self (by first | assumption | exact set_self (by assumption) | exact set_ne (by first | assumption | decide | omega) (by assumption)) | exact set_ne (by first | assumption | decide | omega) (by first | assumption | exact set_self (by assumption) | exact set_ne (by first | assumption | decide | omega) (by assumption)))) (by assumption) _ _ (by omega) (by omega)) rfl rfl (Nat.le_of_ble_eq_true rfl) ⟨by show d - 1 + 1 ≤ d; omega, by show 40 * (d - 1 + 1) ≤ 40 * d; omega⟩ ⟨Nat.zero_le _, Nat.zero_le _⟩ ?_
                  refine AW.bz (tgt := 155) (pn := 139) rfl (by decide) rfl (fun c136 => ?_) (fun c136 => ?_)
                  · refine AW.go 6 (pc' := 162) rfl ?_
                    refine AW.putf (pn := 165) rfl rfl flX4_68 (by first | assumption | exact set_self (by first | assumption | exact set_self (by first | assumption | exact set_self (by assumption) | exact set_ne (by first | assumption | decide | omega) (by assumption)) | exact set_ne (by first | assumption | decide | omega) (by first | assumption | exact set_self (by assumption) | exact set_ne (by first | assumption | decide | omega) (by assumption))) | exact set_ne (by first | assumption | decide | omega) (by first | assumption | exact set_self (by first | assumption | exact set_self (by assumption) | exact set_ne (by first | assumption | decide | omega) (by assumption)) | exact set_ne (by first | assumption | decide | omega) (by first | assumption | exact set_self (by assumption) | exact set_ne (by first | assumption | decide | omega) (by assumption)))) rfl (by first | trivial | exact bI_01 _ | exact Or.inl rfl | exact Or.inr rfl) ?_
                    refine AW.go 2 (pc' := 167) rfl ?_
                    refine AW.getf (pn := 170) rfl rfl flX4_52 (by first | assumption | exact set_self (by first | assumption | exact set_self (by first | assumption | exact set_self (by assumption) | exact set_ne (by first | assumption | decide | omega) (by assumption)) | exact set_ne (by first | assumption | decide | omega) (by first | assumption | exact set_self (by assumption) | exact set_ne (by first | assumption | decide | omega) (by assumption))) | exact set_ne (by first | assumption | decide | omega) (by first | assumption | exact set_self (by first | assumption | exact set_self (by assumption) | exact set_ne (by first | assumption | decide | omega) (by assumption)) | exact set_ne (by first | assumption | decide | omega) (by first | assumption | exact set_self (by assumption) | exact set_ne (by first | assumption | decide | omega) (by assumption)))) rfl ?_
                    refine AW.bi (tgt := 177) (pn := 173) rfl (by decide) rfl (by first | exact bI_rng _ | exact ⟨by omega, by omega⟩) (by first | exact bI_rng _ | exact ⟨by omega, by omega⟩) (fun c170 => ?_) (fun c170 => ?_)
                    · dsimp only [cmpI] at c170
                      refine AW.go 1 (pc' := 179) rfl ?_
                      refine AW.ret rfl rfl (Nat.le_refl _) (Nat.le_refl _) ?_
                      first
                        | (exfalso; omega)
                        | (have hk : ksg (sga sg pm) = 1 := by omega
                           have hF := ff_at (sga sg pm) pm 1 hk
                           have hN1 := fn_at1 (sga sg pm) pm 1 hk
                           have hN2 := fn_at2 (sga sg pm) pm 1 hk
                           refine ⟨congrArg some ?_, _, rfl, fun q => ?_⟩ <;> omega)
                        | (have hk : ksg (sga sg pm) = 2 := by omega
                           have hF := ff_at (sga sg pm) pm 2 hk
                           have hN1 := fn_at1 (sga sg pm) pm 2 hk
                           have hN2 := fn_at2 (sga sg pm) pm 2 hk
                           refine ⟨congrArg some ?_, _, rfl, fun q => ?_⟩ <;> omega)
                    · dsimp only [cmpI] at c170
                      refine AW.go 2 (pc' := 179) rfl ?_
                      refine AW.ret rfl rfl (Nat.le_refl _) (Nat.le_refl _) ?_
                      first
                        | (exfalso; omega)
                        | (have hk : ksg (sga sg pm) = 1 := by omega
                           have hF := ff_at (sga sg pm) pm 1 hk
                           have hN1 := fn_at1 (sga sg pm) pm 1 hk
                           have hN2 := fn_at2 (sga sg pm) pm 1 hk
                           refine ⟨congrArg some ?_, _, rfl, fun q => ?_⟩ <;> omega)
                        | (have hk : ksg (sga sg pm) = 2 := by omega
                           have hF := ff_at (sga sg pm) pm 2 hk
                           have hN1 := fn_at1 (sga sg pm) pm 2 hk
                           have hN2 := fn_at2 (sga sg pm) pm 2 hk
                           refine ⟨congrArg some ?_, _, rfl, fun q => ?_⟩ <;> omega)
                  · refine AW.go 2 (pc' := 142) rfl ?_
                    refine AW.getf (pn := 145) rfl rfl flX4_16 (by first | assumption | exact set_self (by first | assumption | exact set_self (by first | assumption | exact set_self (by assumption) | exact set_ne (by first | assumption | decide | omega) (by assumption)) | exact set_ne (by first | assumption | decide | omega) (by first | assumption | exact set_self (by assumption) | exact set_ne (by first | assumption | decide | omega) (by assumption))) | exact set_ne (by first | assumption | decide | omega) (by first | assumption | exact set_self (by first | assumption | exact set_self (by assumption) | exact set_ne (by first | assumption | decide | omega) (by assumption)) | exact set_ne (by first | assumption | decide | omega) (by first | assumption | exact set_self (by assumption) | exact set_ne (by first | assumption | decide | omega) (by assumption)))) rfl ?_
                    refine AW.go 1 (pc' := 146) rfl ?_
                    refine AW.iald (pn := 147) rfl rfl (by first | assumption | exact set_self (by first | assumption | exact set_self (by first | assumption | exact set_self (by assumption) | exact set_ne (by first | assumption | decide | omega) (by assumption)) | exact set_ne (by first | assumption | decide | omega) (by first | assumption | exact set_self (by assumption) | exact set_ne (by first | assumption | decide | omega) (by assumption))) | exact set_ne (by first | assumption | decide | omega) (by first | assumption | exact set_self (by first | assumption | exact set_self (by assumption) | exact set_ne (by first | assumption | decide | omega) (by assumption)) | exact set_ne (by first | assumption | decide | omega) (by first | assumption | exact set_self (by assumption) | exact set_ne (by first | assumption | decide | omega) (by assumption)))) (by decide) (by omega) (by omega) ?_
                    refine AW.go 11 (pc' := 162) rfl ?_
                    refine AW.putf (pn := 165) rfl rfl flX4_68 (by first | assumption | exact set_self (by first | assumption | exact set_self (by first | assumption | exact set_self (by assumption) | exact set_ne (by first | assumption | decide | omega) (by assumption)) | exact set_ne (by first | assumption | decide | omega) (by first | assumption | exact set_self (by assumption) | exact set_ne (by first | assumption | decide | omega) (by assumption))) | exact set_ne (by first | assumption | decide | omega) (by first | assumption | exact set_self (by first | assumption | exact set_self (by assumption) | exact set_ne (by first | assumption | decide | omega) (by assumption)) | exact set_ne (by first | assumption | decide | omega) (by first | assumption | exact set_self (by assumption) | exact set_ne (by first | assumption | decide | omega) (by assumption)))) rfl (by first | trivial | exact bI_01 _ | exact Or.inl rfl | exact Or.inr rfl) ?_
                    refine AW.go 2 (pc' := 167) rfl ?_
                    refine AW.getf (pn := 170) rfl rfl flX4_52 (by first | assumption | exact set_self (by first | assumption | exact set_self (by first | assumption | exact set_self (by assumption) | exact set_ne (by first | assumption | decide | omega) (by assumption)) | exact set_ne (by first | assumption | decide | omega) (by first | assumption | exact set_self (by assumption) | exact set_ne (by first | assumption | decide | omega) (by assumption))) | exact set_ne (by first | assumption | decide | omega) (by first | assumption | exact set_self (by first | assumption | exact set_self (by assumption) | exact set_ne (by first | assumption | decide | omega) (by assumption)) | exact set_ne (by first | assumption | decide | omega) (by first | assumption | exact set_self (by assumption) | exact set_ne (by first | assumption | decide | omega) (by assumption)))) rfl ?_
                    refine AW.bi (tgt := 177) (pn := 173) rfl (by decide) rfl (by first | exact bI_rng _ | exact ⟨by omega, by omega⟩) (by first | exact bI_rng _ | exact ⟨by omega, by omega⟩) (fun c170 => ?_) (fun c170 => ?_)
                    · dsimp only [cmpI] at c170
                      refine AW.go 1 (pc' := 179) rfl ?_
                      refine AW.ret rfl rfl (Nat.le_refl _) (Nat.le_refl _) ?_
                      first
                        | (exfalso; omega)
                        | (have hk : ksg (sga sg pm) = 1 := by omega
                           have hF := ff_at (sga sg pm) pm 1 hk
                           have hN1 := fn_at1 (sga sg pm) pm 1 hk
                           have hN2 := fn_at2 (sga sg pm) pm 1 hk
                           refine ⟨congrArg some ?_, _, rfl, fun q => ?_⟩ <;> omega)
                        | (have hk : ksg (sga sg pm) = 2 := by omega
                           have hF := ff_at (sga sg pm) pm 2 hk
                           have hN1 := fn_at1 (sga sg pm) pm 2 hk
                           have hN2 := fn_at2 (sga sg pm) pm 2 hk
                           refine ⟨congrArg some ?_, _, rfl, fun q => ?_⟩ <;> omega)
                    · dsimp only [cmpI] at c170
                      refine AW.go 2 (pc' := 179) rfl ?_
                      refine AW.ret rfl rfl (Nat.le_refl _) (Nat.le_refl _) ?_
                      first
                        | (exfalso; omega)
                        | (have hk : ksg (sga sg pm) = 1 := by omega
                           have hF := ff_at (sga sg pm) pm 1 hk
                           have hN1 := fn_at1 (sga sg pm) pm 1 hk
                           have hN2 := fn_at2 (sga sg pm) pm 1 hk
                           refine ⟨congrArg some ?_, _, rfl, fun q => ?_⟩ <;> omega)
                        | (have hk : ksg (sga sg pm) = 2 := by omega
                           have hF := ff_at (sga sg pm) pm 2 hk
                           have hN1 := fn_at1 (sga sg pm) pm 2 hk
                           have hN2 := fn_at2 (sga sg pm) pm 2 hk
                           refine ⟨congrArg some ?_, _, rfl, fun q => ?_⟩ <;> omega)
            · refine AW.go 1 (pc' := 100) rfl ?_
              refine AW.ret rfl rfl (Nat.le_refl _) (Nat.le_refl _) ?_
              first
                | (exfalso; omega)
                | (have hk : ksg (sga sg pm) = 1 := by omega
                   have hF := ff_at (sga sg pm) pm 1 hk
                   have hN1 := fn_at1 (sga sg pm) pm 1 hk
                   have hN2 := fn_at2 (sga sg pm) pm 1 hk
                   refine ⟨congrArg some ?_, rf, (set_same hO).symm, fun q => ?_⟩ <;> omega)
                | (have hk : ksg (sga sg pm) = 2 := by omega
                   have hF := ff_at (sga sg pm) pm 2 hk
                   have hN1 := fn_at1 (sga sg pm) pm 2 hk
                   have hN2 := fn_at2 (sga sg pm) pm 2 hk
                   refine ⟨congrArg some ?_, rf, (set_same hO).symm, fun q => ?_⟩ <;> omega)
        · dsimp only [cmpI] at c55
          refine AW.go 3 (pc' := 62) rfl ?_
          refine AW.callVF (pn := 65) rfl rfl mlX4_64 (by first | assumption | exact set_self (by first | assumption | exact set_self (by first | assumption | exact set_self (by assumption) | exact set_ne (by first | assumption | decide | omega) (by assumption)) | exact set_ne (by first | assumption | decide | omega) (by first | assumption | exact set_self (by assumption) | exact set_ne (by first | assumption | decide | omega) (by assumption))) | exact set_ne (by first | assumption | decide | omega) (by first | assumption | exact set_self (by first | assumption | exact set_self (by assumption) | exact set_ne (by first | assumption | decide | omega) (by assumption)) | exact set_ne (by first | assumption | decide | omega) (by first | assumption | exact set_self (by assumption) | exact set_ne (by first | assumption | decide | omega) (by assumption)))) (c_X4_isSign (d - 1) (by omega) _ _ _ _ _ _ (by first | assumption | exact set_self (by first | assumption | exact set_self (by first | assumption | exact set_self (by assumption) | exact set_ne (by first | assumption | decide | omega) (by assumption)) | exact set_ne (by first | assumption | decide | omega) (by first | assumption | exact set_self (by assumption) | exact set_ne (by first | assumption | decide | omega) (by assumption))) | exact set_ne (by first | assumption | decide | omega) (by first | assumption | exact set_self (by first | assumption | exact set_self (by assumption) | exact set_ne (by first | assumption | decide | omega) (by assumption)) | exact set_ne (by first | assumption | decide | omega) (by first | assumption | exact set_self (by assumption) | exact set_ne (by first | assumption | decide | omega) (by assumption)))) (by omega) _ (by first | assumption | exact set_self (by first | assumption | exact set_self (by first | assumption | exact set_self (by assumption) | exact set_ne (by first | assumption | decide | omega) (by assumption)) | exact set_ne (by first | assumption | decide | omega) (by first | assumption | exact set_self (by assumption) | exact set_ne (by first | assumption | decide | omega) (by assumption))) | exact set_ne (by first | assumption | decide | omega) (by first | assumption | exact set_self (by first | assumption | exact set_self (by assumption) | exact set_ne (by first | assumption | decide | omega) (by assumption)) | exact set_ne (by first | assumption | decide | omega) (by first | assumption | exact set_self (by assumption) | exact set_ne (by first | assumption | decide | omega) (by assumption)))) (by assumption) _ _ (by omega) (by omega)) rfl rfl (Nat.le_of_ble_eq_true rfl) ⟨by show d - 1 + 1 ≤ d; omega, by show 40 * (d - 1 + 1) ≤ 40 * d; omega⟩ ⟨Nat.zero_le _, Nat.zero_le _⟩ ?_
          refine AW.bz (tgt := 72) (pn := 68) rfl (by decide) rfl (fun c65 => ?_) (fun c65 => ?_)
          · refine AW.go 2 (pc' := 74) rfl ?_
            refine AW.getf (pn := 77) rfl rfl flX4_52 (by first | assumption | exact set_self (by first | assumption | exact set_self (by first | assumption | exact set_self (by assumption) | exact set_ne (by first | assumption | decide | omega) (by assumption)) | exact set_ne (by first | assumption | decide | omega) (by first | assumption | exact set_self (by assumption) | exact set_ne (by first | assumption | decide | omega) (by assumption))) | exact set_ne (by first | assumption | decide | omega) (by first | assumption | exact set_self (by first | assumption | exact set_self (by assumption) | exact set_ne (by first | assumption | decide | omega) (by assumption)) | exact set_ne (by first | assumption | decide | omega) (by first | assumption | exact set_self (by assumption) | exact set_ne (by first | assumption | decide | omega) (by assumption)))) rfl ?_
            refine AW.bi (tgt := 99) (pn := 80) rfl (by decide) rfl (by first | exact bI_rng _ | exact ⟨by omega, by omega⟩) (by first | exact bI_rng _ | exact ⟨by omega, by omega⟩) (fun c77 => ?_) (fun c77 => ?_)
            · dsimp only [cmpI] at c77
              refine AW.go 1 (pc' := 100) rfl ?_
              refine AW.ret rfl rfl (Nat.le_refl _) (Nat.le_refl _) ?_
              first
                | (exfalso; omega)
                | (have hk : ksg (sga sg pm) = 1 := by omega
                   have hF := ff_at (sga sg pm) pm 1 hk
                   have hN1 := fn_at1 (sga sg pm) pm 1 hk
                   have hN2 := fn_at2 (sga sg pm) pm 1 hk
                   refine ⟨congrArg some ?_, rf, (set_same hO).symm, fun q => ?_⟩ <;> omega)
                | (have hk : ksg (sga sg pm) = 2 := by omega
                   have hF := ff_at (sga sg pm) pm 2 hk
                   have hN1 := fn_at1 (sga sg pm) pm 2 hk
                   have hN2 := fn_at2 (sga sg pm) pm 2 hk
                   refine ⟨congrArg some ?_, rf, (set_same hO).symm, fun q => ?_⟩ <;> omega)
            · dsimp only [cmpI] at c77
              refine AW.go 1 (pc' := 81) rfl ?_
              refine AW.getf (pn := 84) rfl rfl flX4_16 (by first | assumption | exact set_self (by first | assumption | exact set_self (by first | assumption | exact set_self (by assumption) | exact set_ne (by first | assumption | decide | omega) (by assumption)) | exact set_ne (by first | assumption | decide | omega) (by first | assumption | exact set_self (by assumption) | exact set_ne (by first | assumption | decide | omega) (by assumption))) | exact set_ne (by first | assumption | decide | omega) (by first | assumption | exact set_self (by first | assumption | exact set_self (by assumption) | exact set_ne (by first | assumption | decide | omega) (by assumption)) | exact set_ne (by first | assumption | decide | omega) (by first | assumption | exact set_self (by assumption) | exact set_ne (by first | assumption | decide | omega) (by assumption)))) rfl ?_
              refine AW.go 1 (pc' := 85) rfl ?_
              refine AW.iald (pn := 86) rfl rfl (by first | assumption | exact set_self (by first | assumption | exact set_self (by first | assumption | exact set_self (by assumption) | exact set_ne (by first | assumption | decide | omega) (by assumption)) | exact set_ne (by first | assumption | decide | omega) (by first | assumption | exact set_self (by assumption) | exact set_ne (by first | assumption | decide | omega) (by assumption))) | exact set_ne (by first | assumption | decide | omega) (by first | assumption | exact set_self (by first | assumption | exact set_self (by assumption) | exact set_ne (by first | assumption | decide | omega) (by assumption)) | exact set_ne (by first | assumption | decide | omega) (by first | assumption | exact set_self (by assumption) | exact set_ne (by first | assumption | decide | omega) (by assumption)))) (by decide) (by omega) (by omega) ?_
              refine AW.i2l (pn := 87) rfl rfl (by first | exact bI_rng _ | exact ⟨by omega, by omega⟩) ?_
              refine AW.ldc2 (pn := 90) rfl rfl clX4_56 ?_
              refine AW.ldc2 (pn := 93) rfl rfl clX4_58 ?_
              refine AW.callSF (pn := 96) rfl rfl mlX4_40 (c_X4_in (d - 1) (by omega) _ _ _ _ (by omega) (by omega) (by omega)) rfl rfl (Nat.le_of_ble_eq_true rfl) ⟨by show d - 1 + 1 ≤ d; omega, by show 40 * (d - 1 + 1) ≤ 40 * d; omega⟩ ⟨Nat.zero_le _, Nat.zero_le _⟩ ?_
              refine AW.bnz (tgt := 101) (pn := 99) rfl (by decide) rfl (fun c96 => ?_) (fun c96 => ?_)
              · refine AW.go 1 (pc' := 102) rfl ?_
                refine AW.getf (pn := 105) rfl rfl flX4_16 (by first | assumption | exact set_self (by first | assumption | exact set_self (by first | assumption | exact set_self (by assumption) | exact set_ne (by first | assumption | decide | omega) (by assumption)) | exact set_ne (by first | assumption | decide | omega) (by first | assumption | exact set_self (by assumption) | exact set_ne (by first | assumption | decide | omega) (by assumption))) | exact set_ne (by first | assumption | decide | omega) (by first | assumption | exact set_self (by first | assumption | exact set_self (by assumption) | exact set_ne (by first | assumption | decide | omega) (by assumption)) | exact set_ne (by first | assumption | decide | omega) (by first | assumption | exact set_self (by assumption) | exact set_ne (by first | assumption | decide | omega) (by assumption)))) rfl ?_
                refine AW.go 1 (pc' := 106) rfl ?_
                refine AW.iald (pn := 107) rfl rfl (by first | assumption | exact set_self (by first | assumption | exact set_self (by first | assumption | exact set_self (by assumption) | exact set_ne (by first | assumption | decide | omega) (by assumption)) | exact set_ne (by first | assumption | decide | omega) (by first | assumption | exact set_self (by assumption) | exact set_ne (by first | assumption | decide | omega) (by assumption))) | exact set_ne (by first | assumption | decide | omega) (by first | assumption | exact set_self (by first | assumption | exact set_self (by assumption) | exact set_ne (by first | assumption | decide | omega) (by assumption)) | exact set_ne (by first | assumption | decide | omega) (by first | assumption | exact set_self (by assumption) | exact set_ne (by first | assumption | decide | omega) (by assumption)))) (by decide) (by omega) (by omega) ?_
                refine AW.go 6 (pc' := 116) rfl ?_
                refine AW.bi (tgt := 155) (pn := 119) rfl (by decide) rfl (by first | exact bI_rng _ | exact ⟨by omega, by omega⟩) (by first | exact bI_rng _ | exact ⟨by omega, by omega⟩) (fun c116 => ?_) (fun c116 => ?_)
                · dsimp only [cmpI] at c116
                  refine AW.go 6 (pc' := 162) rfl ?_
                  refine AW.putf (pn := 165) rfl rfl flX4_68 (by first | assumption | exact set_self (by first | assumption | exact set_self (by first | assumption | exact set_self (by assumption) | exact set_ne (by first | assumption | decide | omega) (by assumption)) | exact set_ne (by first | assumption | decide | omega) (by first | assumption | exact set_self (by assumption) | exact set_ne (by first | assumption | decide | omega) (by assumption))) | exact set_ne (by first | assumption | decide | omega) (by first | assumption | exact set_self (by first | assumption | exact set_self (by assumption) | exact set_ne (by first | assumption | decide | omega) (by assumption)) | exact set_ne (by first | assumption | decide | omega) (by first | assumption | exact set_self (by assumption) | exact set_ne (by first | assumption | decide | omega) (by assumption)))) rfl (by first | trivial | exact bI_01 _ | exact Or.inl rfl | exact Or.inr rfl) ?_
                  refine AW.go 2 (pc' := 167) rfl ?_
                  refine AW.getf (pn := 170) rfl rfl flX4_52 (by first | assumption | exact set_self (by first | assumption | exact set_self (by first | assumption | exact set_self (by assumption) | exact set_ne (by first | assumption | decide | omega) (by assumption)) | exact set_ne (by first | assumption | decide | omega) (by first | assumption | exact set_self (by assumption) | exact set_ne (by first | assumption | decide | omega) (by assumption))) | exact set_ne (by first | assumption | decide | omega) (by first | assumption | exact set_self (by first | assumption | exact set_self (by assumption) | exact set_ne (by first | assumption | decide | omega) (by assumption)) | exact set_ne (by first | assumption | decide | omega) (by first | assumption | exact set_self (by assumption) | exact set_ne (by first | assumption | decide | omega) (by assumption)))) rfl ?_
                  refine AW.bi (tgt := 177) (pn := 173) rfl (by decide) rfl (by first | exact bI_rng _ | exact ⟨by omega, by omega⟩) (by first | exact bI_rng _ | exact ⟨by omega, by omega⟩) (fun c170 => ?_) (fun c170 => ?_)
                  · dsimp only [cmpI] at c170
                    refine AW.go 1 (pc' := 179) rfl ?_
                    refine AW.ret rfl rfl (Nat.le_refl _) (Nat.le_refl _) ?_
                    first
                      | (exfalso; omega)
                      | (have hk : ksg (sga sg pm) = 1 := by omega
                         have hF := ff_at (sga sg pm) pm 1 hk
                         have hN1 := fn_at1 (sga sg pm) pm 1 hk
                         have hN2 := fn_at2 (sga sg pm) pm 1 hk
                         refine ⟨congrArg some ?_, _, rfl, fun q => ?_⟩ <;> omega)
                      | (have hk : ksg (sga sg pm) = 2 := by omega
                         have hF := ff_at (sga sg pm) pm 2 hk
                         have hN1 := fn_at1 (sga sg pm) pm 2 hk
                         have hN2 := fn_at2 (sga sg pm) pm 2 hk
                         refine ⟨congrArg some ?_, _, rfl, fun q => ?_⟩ <;> omega)
                  · dsimp only [cmpI] at c170
                    refine AW.go 2 (pc' := 179) rfl ?_
                    refine AW.ret rfl rfl (Nat.le_refl _) (Nat.le_refl _) ?_
                    first
                      | (exfalso; omega)
                      | (have hk : ksg (sga sg pm) = 1 := by omega
                         have hF := ff_at (sga sg pm) pm 1 hk
                         have hN1 := fn_at1 (sga sg pm) pm 1 hk
                         have hN2 := fn_at2 (sga sg pm) pm 1 hk
                         refine ⟨congrArg some ?_, _, rfl, fun q => ?_⟩ <;> omega)
                      | (have hk : ksg (sga sg pm) = 2 := by omega
                         have hF := ff_at (sga sg pm) pm 2 hk
                         have hN1 := fn_at1 (sga sg pm) pm 2 hk
                         have hN2 := fn_at2 (sga sg pm) pm 2 hk
                         refine ⟨congrArg some ?_, _, rfl, fun q => ?_⟩ <;> omega)
                · dsimp only [cmpI] at c116
                  refine AW.go 3 (pc' := 123) rfl ?_
                  refine AW.callVF (pn := 126) rfl rfl mlX4_64 (by first | assumption | exact set_self (by first | assumption | exact set_self (by first | assumption | exact set_self (by assumption) | exact set_ne (by first | assumption | decide | omega) (by assumption)) | exact set_ne (by first | assumption | decide | omega) (by first | assumption | exact set_self (by assumption) | exact set_ne (by first | assumption | decide | omega) (by assumption))) | exact set_ne (by first | assumption | decide | omega) (by first | assumption | exact set_self (by first | assumption | exact set_self (by assumption) | exact set_ne (by first | assumption | decide | omega) (by assumption)) | exact set_ne (by first | assumption | decide | omega) (by first | assumption | exact set_self (by assumption) | exact set_ne (by first | assumption | decide | omega) (by assumption)))) (c_X4_isSign (d - 1) (by omega) _ _ _ _ _ _ (by first | assumption | exact set_self (by first | assumption | exact set_self (by first | assumption | exact set_self (by assumption) | exact set_ne (by first | assumption | decide | omega) (by assumption)) | exact set_ne (by first | assumption | decide | omega) (by first | assumption | exact set_self (by assumption) | exact set_ne (by first | assumption | decide | omega) (by assumption))) | exact set_ne (by first | assumption | decide | omega) (by first | assumption | exact set_self (by first | assumption | exact set_self (by assumption) | exact set_ne (by first | assumption | decide | omega) (by assumption)) | exact set_ne (by first | assumption | decide | omega) (by first | assumption | exact set_self (by assumption) | exact set_ne (by first | assumption | decide | omega) (by assumption)))) (by omega) _ (by first | assumption | exact set_self (by first | assumption | exact set_self (by first | assumption | exact set_self (by assumption) | exact set_ne (by first | assumption | decide | omega) (by assumption)) | exact set_ne (by first | assumption | decide | omega) (by first | assumption | exact set_self (by assumption) | exact set_ne (by first | assumption | decide | omega) (by assumption))) | exact set_ne (by first | assumption | decide | omega) (by first | assumption | exact set_self (by first | assumption | exact set_self (by assumption) | exact set_ne (by first | assumption | decide | omega) (by assumption)) | exact set_ne (by first | assumption | decide | omega) (by first | assumption | exact set_self (by assumption) | exact set_ne (by first | assumption | decide | omega) (by assumption)))) (by assumption) _ _ (by omega) (by omega)) rfl rfl (Nat.le_of_ble_eq_true rfl) ⟨by show d - 1 + 1 ≤ d; omega, by show 40 * (d - 1 + 1) ≤ 40 * d; omega⟩ ⟨Nat.zero_le _, Nat.zero_le _⟩ ?_
                  refine AW.bnz (tgt := 139) (pn := 129) rfl (by decide) rfl (fun c126 => ?_) (fun c126 => ?_)
                  · refine AW.go 2 (pc' := 142) rfl ?_
                    refine AW.getf (pn := 145) rfl rfl flX4_16 (by first | assumption | exact set_self (by first | assumption | exact set_self (by first | assumption | exact set_self (by assumption) | exact set_ne (by first | assumption | decide | omega) (by assumption)) | exact set_ne (by first | assumption | decide | omega) (by first | assumption | exact set_self (by assumption) | exact set_ne (by first | assumption | decide | omega) (by assumption))) | exact set_ne (by first | assumption | decide | omega) (by first | assumption | exact set_self (by first | assumption | exact set_self (by assumption) | exact set_ne (by first | assumption | decide | omega) (by assumption)) | exact set_ne (by first | assumption | decide | omega) (by first | assumption | exact set_self (by assumption) | exact set_ne (by first | assumption | decide | omega) (by assumption)))) rfl ?_
                    refine AW.go 1 (pc' := 146) rfl ?_
                    refine AW.iald (pn := 147) rfl rfl (by first | assumption | exact set_self (by first | assumption | exact set_self (by first | assumption | exact set_self (by assumption) | exact set_ne (by first | assumption | decide | omega) (by assumption)) | exact set_ne (by first | assumption | decide | omega) (by first | assumption | exact set_self (by assumption) | exact set_ne (by first | assumption | decide | omega) (by assumption))) | exact set_ne (by first | assumption | decide | omega) (by first | assumption | exact set_self (by first | assumption | exact set_self (by assumption) | exact set_ne (by first | assumption | decide | omega) (by assumption)) | exact set_ne (by first | assumption | decide | omega) (by first | assumption | exact set_self (by assumption) | exact set_ne (by first | assumption | decide | omega) (by assumption)))) (by decide) (by omega) (by omega) ?_
                    refine AW.go 11 (pc' := 162) rfl ?_
                    refine AW.putf (pn := 165) rfl rfl flX4_68 (by first | assumption | exact set_self (by first | assumption | exact set_self (by first | assumption | exact set_self (by assumption) | exact set_ne (by first | assumption | decide | omega) (by assumption)) | exact set_ne (by first | assumption | decide | omega) (by first | assumption | exact set_self (by assumption) | exact set_ne (by first | assumption | decide | omega) (by assumption))) | exact set_ne (by first | assumption | decide | omega) (by first | assumption | exact set_self (by first | assumption | exact set_self (by assumption) | exact set_ne (by first | assumption | decide | omega) (by assumption)) | exact set_ne (by first | assumption | decide | omega) (by first | assumption | exact set_self (by assumption) | exact set_ne (by first | assumption | decide | omega) (by assumption)))) rfl (by first | trivial | exact bI_01 _ | exact Or.inl rfl | exact Or.inr rfl) ?_
                    refine AW.go 2 (pc' := 167) rfl ?_
                    refine AW.getf (pn := 170) rfl rfl flX4_52 (by first | assumption | exact set_self (by first | assumption | exact set_self (by first | assumption | exact set_self (by assumption) | exact set_ne (by first | assumption | decide | omega) (by assumption)) | exact set_ne (by first | assumption | decide | omega) (by first | assumption | exact set_self (by assumption) | exact set_ne (by first | assumption | decide | omega) (by assumption))) | exact set_ne (by first | assumption | decide | omega) (by first | assumption | exact set_self (by first | assumption | exact set_self (by assumption) | exact set_ne (by first | assumption | decide | omega) (by assumption)) | exact set_ne (by first | assumption | decide | omega) (by first | assumption | exact set_self (by assumption) | exact set_ne (by first | assumption | decide | omega) (by assumption)))) rfl ?_
                    refine AW.bi (tgt := 177) (pn := 173) rfl (by decide) rfl (by first | exact bI_rng _ | exact ⟨by omega, by omega⟩) (by first | exact bI_rng _ | exact ⟨by omega, by omega⟩) (fun c170 => ?_) (fun c170 => ?_)
                    · dsimp only [cmpI] at c170
                      refine AW.go 1 (pc' := 179) rfl ?_
                      refine AW.ret rfl rfl (Nat.le_refl _) (Nat.le_refl _) ?_
                      first
                        | (exfalso; omega)
                        | (have hk : ksg (sga sg pm) = 1 := by omega
                           have hF := ff_at (sga sg pm) pm 1 hk
                           have hN1 := fn_at1 (sga sg pm) pm 1 hk
                           have hN2 := fn_at2 (sga sg pm) pm 1 hk
                           refine ⟨congrArg some ?_, _, rfl, fun q => ?_⟩ <;> omega)
                        | (have hk : ksg (sga sg pm) = 2 := by omega
                           have hF := ff_at (sga sg pm) pm 2 hk
                           have hN1 := fn_at1 (sga sg pm) pm 2 hk
                           have hN2 := fn_at2 (sga sg pm) pm 2 hk
                           refine ⟨congrArg some ?_, _, rfl, fun q => ?_⟩ <;> omega)
                    · dsimp only [cmpI] at c170
                      refine AW.go 2 (pc' := 179) rfl ?_
                      refine AW.ret rfl rfl (Nat.le_refl _) (Nat.le_refl _) ?_
                      first
                        | (exfalso; omega)
                        | (have hk : ksg (sga sg pm) = 1 := by omega
                           have hF := ff_at (sga sg pm) pm 1 hk
                           have hN1 := fn_at1 (sga sg pm) pm 1 hk
                           have hN2 := fn_at2 (sga sg pm) pm 1 hk
                           refine ⟨congrArg some ?_, _, rfl, fun q => ?_⟩ <;> omega)
                        | (have hk : ksg (sga sg pm) = 2 := by omega
                           have hF := ff_at (sga sg pm) pm 2 hk
                           have hN1 := fn_at1 (sga sg pm) pm 2 hk
                           have hN2 := fn_at2 (sga sg pm) pm 2 hk
                           refine ⟨congrArg some ?_, _, rfl, fun q => ?_⟩ <;> omega)
                  · refine AW.go 3 (pc' := 133) rfl ?_
                    refine AW.callVF (pn := 136) rfl rfl mlX4_64 (by first | assumption | exact set_self (by first | assumption | exact set_self (by first | assumption | exact set_self (by assumption) | exact set_ne (by first | assumption | decide | omega) (by assumption)) | exact set_ne (by first | assumption | decide | omega) (by first | assumption | exact set_self (by assumption) | exact set_ne (by first | assumption | decide | omega) (by assumption))) | exact set_ne (by first | assumption | decide | omega) (by first | assumption | exact set_self (by first | assumption | exact set_self (by assumption) | exact set_ne (by first | assumption | decide | omega) (by assumption)) | exact set_ne (by first | assumption | decide | omega) (by first | assumption | exact set_self (by assumption) | exact set_ne (by first | assumption | decide | omega) (by assumption)))) (c_X4_isSign (d - 1) (by omega) _ _ _ _ _ _ (by first | assumption | exact set_self (by first | assumption | exact set_self (by first | assumption | exact set_self (by assumption) | exact set_ne (by first | assumption | decide | omega) (by assumption)) | exact set_ne (by first | assumption | decide | omega) (by first | assumption | exact set_self (by assumption) | exact set_ne (by first | assumption | decide | omega) (by assumption))) | exact set_ne (by first | assumption | decide | omega) (by first | assumption | exact set_self (by first | assumption | exact set_self (by assumption) | exact set_ne (by first | assumption | decide | omega) (by assumption)) | exact set_ne (by first | assumption | decide | omega) (by first | assumption | exact set_self (by assumption) | exact set_ne (by first | assumption | decide | omega) (by assumption)))) (by omega) _ (by first | assumption | exact set_self (by first | assumption | exact set_self (by first | assumption | exact set_self (by assumption) | exact set_ne (by first | assumption | decide | omega) (by assumption)) | exact set_ne (by first | assumption | decide | omega) (by first | assumption | exact set_self (by assumption) | exact set_ne (by first | assumption | decide | omega) (by assumption))) | exact set_ne (by first | assumption | decide | omega) (by first | assumption | exact set_self (by first | assumption | exact set_self (by assumption) | exact set_ne (by first | assumption | decide | omega) (by assumption)) | exact set_ne (by first | assumption | decide | omega) (by first | assumption | exact set_self (by assumption) | exact set_ne (by first | assumption | decide | omega) (by assumption)))) (by assumption) _ _ (by omega) (by omega)) rfl rfl (Nat.le_of_ble_eq_true rfl) ⟨by show d - 1 + 1 ≤ d; omega, by show 40 * (d - 1 + 1) ≤ 40 * d; omega⟩ ⟨Nat.zero_le _, Nat.zero_le _⟩ ?_
                    refine AW.bz (tgt := 155) (pn := 139) rfl (by decide) rfl (fun c136 => ?_) (fun c136 => ?_)
                    · refine AW.go 6 (pc' := 162) rfl ?_
                      refine AW.putf (pn := 165) rfl rfl flX4_68 (by first | assumption | exact set_self (by first | assumption | exact set_self (by first | assumption | exact set_self (by assumption) | exact set_ne (by first | assumption | decide | omega) (by assumption)) | exact set_ne (by first | assumption | decide | omega) (by first | assumption | exact set_self (by assumption) | exact set_ne (by first | assumption | decide | omega) (by assumption))) | exact set_ne (by first | assumption | decide | omega) (by first | assumption | exact set_self (by first | assumption | exact set_self (by assumption) | exact set_ne (by first | assumption | decide | omega) (by assumption)) | exact set_ne (by first | assumption | decide | omega) (by first | assumption | exact set_self (by assumption) | exact set_ne (by first | assumption | decide | omega) (by assumption)))) rfl (by first | trivial | exact bI_01 _ | exact Or.inl rfl | exact Or.inr rfl) ?_
                      refine AW.go 2 (pc' := 167) rfl ?_
                      refine AW.getf (pn := 170) rfl rfl flX4_52 (by first | assumption | exact set_self (by first | assumption | exact set_self (by first | assumption | exact set_self (by assumption) | exact set_ne (by first | assumption | decide | omega) (by assumption)) | exact set_ne (by first | assumption | decide | omega) (by first | assumption | exact set_self (by assumption) | exact set_ne (by first | assumption | decide | omega) (by assumption))) | exact set_ne (by first | assumption | decide | omega) (by first | assumption | exact set_self (by first | assumption | exact set_self (by assumption) | exact set_ne (by first | assumption | decide | omega) (by assumption)) | exact set_ne (by first | assumption | decide | omega) (by first | assumption | exact set_self (by assumption) | exact set_ne (by first | assumption | decide | omega) (by assumption)))) rfl ?_
                      refine AW.bi (tgt := 177) (pn := 173) rfl (by decide) rfl (by first | exact bI_rng _ | exact ⟨by omega, by omega⟩) (by first | exact bI_rng _ | exact ⟨by omega, by omega⟩) (fun c170 => ?_) (fun c170 => ?_)
                      · dsimp only [cmpI] at c170
                        refine AW.go 1 (pc' := 179) rfl ?_
                        refine AW.ret rfl rfl (Nat.le_refl _) (Nat.le_refl _) ?_
                        first
                          | (exfalso; omega)
                          | (have hk : ksg (sga sg pm) = 1 := by omega
                             have hF := ff_at (sga sg pm) pm 1 hk
                             have hN1 := fn_at1 (sga sg pm) pm 1 hk
                             have hN2 := fn_at2 (sga sg pm) pm 1 hk
                             refine ⟨congrArg some ?_, _, rfl, fun q => ?_⟩ <;> omega)
                          | (have hk : ksg (sga sg pm) = 2 := by omega
                             have hF := ff_at (sga sg pm) pm 2 hk
                             have hN1 := fn_at1 (sga sg pm) pm 2 hk
                             have hN2 := fn_at2 (sga sg pm) pm 2 hk
                             refine ⟨congrArg some ?_, _, rfl, fun q => ?_⟩ <;> omega)
                      · dsimp only [cmpI] at c170
                        refine AW.go 2 (pc' := 179) rfl ?_
                        refine AW.ret rfl rfl (Nat.le_refl _) (Nat.le_refl _) ?_
                        first
                          | (exfalso; omega)
                          | (have hk : ksg (sga sg pm) = 1 := by omega
                             have hF := ff_at (sga sg pm) pm 1 hk
                             have hN1 := fn_at1 (sga sg pm) pm 1 hk
                             have hN2 := fn_at2 (sga sg pm) pm 1 hk
                             refine ⟨congrArg some ?_, _, rfl, fun q => ?_⟩ <;> omega)
                          | (have hk : ksg (sga sg pm) = 2 := by omega
                             have hF := ff_at (sga sg pm) pm 2 hk
                             have hN1 := fn_at1 (sga sg pm) pm 2 hk
                             have hN2 := fn_at2 (sga sg pm) pm 2 hk
                             refine ⟨congrArg some ?_, _, rfl, fun q => ?_⟩ <;> omega)
                    · refine AW.go 2 (pc' := 142) rfl ?_
                      refine AW.getf (pn := 145) rfl rfl flX4_16 (by first | assumption | exact set_self (by first | assumption | exact set_self (by first | assumption | exact set_self (by assumption) | exact set_ne (by first | assumption | decide | omega) (by assumption)) | exact set_ne (by first | assumption | decide | omega) (by first | assumption | exact set_self (by assumption) | exact set_ne (by first | assumption | decide | omega) (by assumption))) | exact set_ne (by first | assumption | decide | omega) (by first | assumption | exact set_self (by first | assumption | exact set_self (by assumption) | exact set_ne (by first | assumption | decide | omega) (by assumption)) | exact set_ne (by first | assumption | decide | omega) (by first | assumption | exact set_self (by assumption) | exact set_ne (by first | assumption | decide | omega) (by assumption)))) rfl ?_
                      refine AW.go 1 (pc' := 146) rfl ?_
                      refine AW.iald (pn := 147) rfl rfl (by first | assumption | exact set_self (by first | assumption | exact set_self (by first | assumption | exact set_self (by assumption) | exact set_ne (by first | assumption | decide | omega) (by assumption)) | exact set_ne (by first | assumption | decide | omega) (by first | assumption | exact set_self (by assumption) | exact set_ne (by first | assumption | decide | omega) (by assumption))) | exact set_ne (by first | assumption | decide | omega) (by first | assumption | exact set_self (by first | assumption | exact set_self (by assumption) | exact set_ne (by first | assumption | decide | omega) (by assumption)) | exact set_ne (by first | assumption | decide | omega) (by first | assumption | exact set_self (by assumption) | exact set_ne (by first | assumption | decide | omega) (by assumption)))) (by decide) (by omega) (by omega) ?_
                      refine AW.go 11 (pc' := 162) rfl ?_
                      refine AW.putf (pn := 165) rfl rfl flX4_68 (by first | assumption | exact set_self (by first | assumption | exact set_self (by first | assumption | exact set_self (by assumption) | exact set_ne (by first | assumption | decide | omega) (by assumption)) | exact set_ne (by first | assumption | decide | omega) (by first | assumption | exact set_self (by assumption) | exact set_ne (by first | assumption | decide | omega) (by assumption))) | exact set_ne (by first | assumption | decide | omega) (by first | assumption | exact set_self (by first | assumption | exact set_self (by assumption) | exact set_ne (by first | assumption | decide | omega) (by assumption)) | exact set_ne (by first | assumption | decide | omega) (by first | assumption | exact set_self (by assumption) | exact set_ne (by first | assumption | decide | omega) (by assumption)))) rfl (by first | trivial | exact bI_01 _ | exact Or.inl rfl | exact Or.inr rfl) ?_
                      refine AW.go 2 (pc' := 167) rfl ?_
                      refine AW.getf (pn := 170) rfl rfl flX4_52 (by first | assumption | exact set_self (by first | assumption | exact set_self (by first | assumption | exact set_self (by assumption) | exact set_ne (by first | assumption | decide | omega) (by assumption)) | exact set_ne (by first | assumption | decide | omega) (by first | assumption | exact set_self (by assumption) | exact set_ne (by first | assumption | decide | omega) (by assumption))) | exact set_ne (by first | assumption | decide | omega) (by first | assumption | exact set_self (by first | assumption | exact set_self (by assumption) | exact set_ne (by first | assumption | decide | omega) (by assumption)) | exact set_ne (by first | assumption | decide | omega) (by first | assumption | exact set_self (by assumption) | exact set_ne (by first | assumption | decide | omega) (by assumption)))) rfl ?_
                      refine AW.bi (tgt := 177) (pn := 173) rfl (by decide) rfl (by first | exact bI_rng _ | exact ⟨by omega, by omega⟩) (by first | exact bI_rng _ | exact ⟨by omega, by omega⟩) (fun c170 => ?_) (fun c170 => ?_)
                      · dsimp only [cmpI] at c170
                        refine AW.go 1 (pc' := 179) rfl ?_
                        refine AW.ret rfl rfl (Nat.le_refl _) (Nat.le_refl _) ?_
                        first
                          | (exfalso; omega)
                          | (have hk : ksg (sga sg pm) = 1 := by omega
                             have hF := ff_at (sga sg pm) pm 1 hk
                             have hN1 := fn_at1 (sga sg pm) pm 1 hk
                             have hN2 := fn_at2 (sga sg pm) pm 1 hk
                             refine ⟨congrArg some ?_, _, rfl, fun q => ?_⟩ <;> omega)
                          | (have hk : ksg (sga sg pm) = 2 := by omega
                             have hF := ff_at (sga sg pm) pm 2 hk
                             have hN1 := fn_at1 (sga sg pm) pm 2 hk
                             have hN2 := fn_at2 (sga sg pm) pm 2 hk
                             refine ⟨congrArg some ?_, _, rfl, fun q => ?_⟩ <;> omega)
                      · dsimp only [cmpI] at c170
                        refine AW.go 2 (pc' := 179) rfl ?_
                        refine AW.ret rfl rfl (Nat.le_refl _) (Nat.le_refl _) ?_
                        first
                          | (exfalso; omega)
                          | (have hk : ksg (sga sg pm) = 1 := by omega
                             have hF := ff_at (sga sg pm) pm 1 hk
                             have hN1 := fn_at1 (sga sg pm) pm 1 hk
                             have hN2 := fn_at2 (sga sg pm) pm 1 hk
                             refine ⟨congrArg some ?_, _, rfl, fun q => ?_⟩ <;> omega)
                          | (have hk : ksg (sga sg pm) = 2 := by omega
                             have hF := ff_at (sga sg pm) pm 2 hk
                             have hN1 := fn_at1 (sga sg pm) pm 2 hk
                             have hN2 := fn_at2 (sga sg pm) pm 2 hk
                             refine ⟨congrArg some ?_, _, rfl, fun q => ?_⟩ <;> omega)
              · refine AW.go 1 (pc' := 100) rfl ?_
                refine AW.ret rfl rfl (Nat.le_refl _) (Nat.le_refl _) ?_
                first
                  | (exfalso; omega)
                  | (have hk : ksg (sga sg pm) = 1 := by omega
                     have hF := ff_at (sga sg pm) pm 1 hk
                     have hN1 := fn_at1 (sga sg pm) pm 1 hk
                     have hN2 := fn_at2 (sga sg pm) pm 1 hk
                     refine ⟨congrArg some ?_, rf, (set_same hO).symm, fun q => ?_⟩ <;> omega)
                  | (have hk : ksg (sga sg pm) = 2 := by omega
                     have hF := ff_at (sga sg pm) pm 2 hk
                     have hN1 := fn_at1 (sga sg pm) pm 2 hk
                     have hN2 := fn_at2 (sga sg pm) pm 2 hk
                     refine ⟨congrArg some ?_, rf, (set_same hO).symm, fun q => ?_⟩ <;> omega)
          · refine AW.go 6 (pc' := 74) rfl ?_
            refine AW.getf (pn := 77) rfl rfl flX4_52 (by first | assumption | exact set_self (by first | assumption | exact set_self (by first | assumption | exact set_self (by assumption) | exact set_ne (by first | assumption | decide | omega) (by assumption)) | exact set_ne (by first | assumption | decide | omega) (by first | assumption | exact set_self (by assumption) | exact set_ne (by first | assumption | decide | omega) (by assumption))) | exact set_ne (by first | assumption | decide | omega) (by first | assumption | exact set_self (by first | assumption | exact set_self (by assumption) | exact set_ne (by first | assumption | decide | omega) (by assumption)) | exact set_ne (by first | assumption | decide | omega) (by first | assumption | exact set_self (by assumption) | exact set_ne (by first | assumption | decide | omega) (by assumption)))) rfl ?_
            refine AW.bi (tgt := 99) (pn := 80) rfl (by decide) rfl (by first | exact bI_rng _ | exact ⟨by omega, by omega⟩) (by first | exact bI_rng _ | exact ⟨by omega, by omega⟩) (fun c77 => ?_) (fun c77 => ?_)
            · dsimp only [cmpI] at c77
              refine AW.go 1 (pc' := 100) rfl ?_
              refine AW.ret rfl rfl (Nat.le_refl _) (Nat.le_refl _) ?_
              first
                | (exfalso; omega)
                | (have hk : ksg (sga sg pm) = 1 := by omega
                   have hF := ff_at (sga sg pm) pm 1 hk
                   have hN1 := fn_at1 (sga sg pm) pm 1 hk
                   have hN2 := fn_at2 (sga sg pm) pm 1 hk
                   refine ⟨congrArg some ?_, rf, (set_same hO).symm, fun q => ?_⟩ <;> omega)
                | (have hk : ksg (sga sg pm) = 2 := by omega
                   have hF := ff_at (sga sg pm) pm 2 hk
                   have hN1 := fn_at1 (sga sg pm) pm 2 hk
                   have hN2 := fn_at2 (sga sg pm) pm 2 hk
                   refine ⟨congrArg some ?_, rf, (set_same hO).symm, fun q => ?_⟩ <;> omega)
            · dsimp only [cmpI] at c77
              refine AW.go 1 (pc' := 81) rfl ?_
              refine AW.getf (pn := 84) rfl rfl flX4_16 (by first | assumption | exact set_self (by first | assumption | exact set_self (by first | assumption | exact set_self (by assumption) | exact set_ne (by first | assumption | decide | omega) (by assumption)) | exact set_ne (by first | assumption | decide | omega) (by first | assumption | exact set_self (by assumption) | exact set_ne (by first | assumption | decide | omega) (by assumption))) | exact set_ne (by first | assumption | decide | omega) (by first | assumption | exact set_self (by first | assumption | exact set_self (by assumption) | exact set_ne (by first | assumption | decide | omega) (by assumption)) | exact set_ne (by first | assumption | decide | omega) (by first | assumption | exact set_self (by assumption) | exact set_ne (by first | assumption | decide | omega) (by assumption)))) rfl ?_
              refine AW.go 1 (pc' := 85) rfl ?_
              refine AW.iald (pn := 86) rfl rfl (by first | assumption | exact set_self (by first | assumption | exact set_self (by first | assumption | exact set_self (by assumption) | exact set_ne (by first | assumption | decide | omega) (by assumption)) | exact set_ne (by first | assumption | decide | omega) (by first | assumption | exact set_self (by assumption) | exact set_ne (by first | assumption | decide | omega) (by assumption))) | exact set_ne (by first | assumption | decide | omega) (by first | assumption | exact set_self (by first | assumption | exact set_self (by assumption) | exact set_ne (by first | assumption | decide | omega) (by assumption)) | exact set_ne (by first | assumption | decide | omega) (by first | assumption | exact set_self (by assumption) | exact set_ne (by first | assumption | decide | omega) (by assumption)))) (by decide) (by omega) (by omega) ?_
              refine AW.i2l (pn := 87) rfl rfl (by first | exact bI_rng _ | exact ⟨by omega, by omega⟩) ?_
              refine AW.ldc2 (pn := 90) rfl rfl clX4_56 ?_
              refine AW.ldc2 (pn := 93) rfl rfl clX4_58 ?_
              refine AW.callSF (pn := 96) rfl rfl mlX4_40 (c_X4_in (d - 1) (by omega) _ _ _ _ (by omega) (by omega) (by omega)) rfl rfl (Nat.le_of_ble_eq_true rfl) ⟨by show d - 1 + 1 ≤ d; omega, by show 40 * (d - 1 + 1) ≤ 40 * d; omega⟩ ⟨Nat.zero_le _, Nat.zero_le _⟩ ?_
              refine AW.bnz (tgt := 101) (pn := 99) rfl (by decide) rfl (fun c96 => ?_) (fun c96 => ?_)
              · refine AW.go 1 (pc' := 102) rfl ?_
                refine AW.getf (pn := 105) rfl rfl flX4_16 (by first | assumption | exact set_self (by first | assumption | exact set_self (by first | assumption | exact set_self (by assumption) | exact set_ne (by first | assumption | decide | omega) (by assumption)) | exact set_ne (by first | assumption | decide | omega) (by first | assumption | exact set_self (by assumption) | exact set_ne (by first | assumption | decide | omega) (by assumption))) | exact set_ne (by first | assumption | decide | omega) (by first | assumption | exact set_self (by first | assumption | exact set_self (by assumption) | exact set_ne (by first | assumption | decide | omega) (by assumption)) | exact set_ne (by first | assumption | decide | omega) (by first | assumption | exact set_self (by assumption) | exact set_ne (by first | assumption | decide | omega) (by assumption)))) rfl ?_
                refine AW.go 1 (pc' := 106) rfl ?_
                refine AW.iald (pn := 107) rfl rfl (by first | assumption | exact set_self (by first | assumption | exact set_self (by first | assumption | exact set_self (by assumption) | exact set_ne (by first | assumption | decide | omega) (by assumption)) | exact set_ne (by first | assumption | decide | omega) (by first | assumption | exact set_self (by assumption) | exact set_ne (by first | assumption | decide | omega) (by assumption))) | exact set_ne (by first | assumption | decide | omega) (by first | assumption | exact set_self (by first | assumption | exact set_self (by assumption) | exact set_ne (by first | assumption | decide | omega) (by assumption)) | exact set_ne (by first | assumption | decide | omega) (by first | assumption | exact set_self (by assumption) | exact set_ne (by first | assumption | decide | omega) (by assumption)))) (by decide) (by omega) (by omega) ?_
                refine AW.go 6 (pc' := 116) rfl ?_
                refine AW.bi (tgt := 155) (pn := 119) rfl (by decide) rfl (by first | exact bI_rng _ | exact ⟨by omega, by omega⟩) (by first | exact bI_rng _ | exact ⟨by omega, by omega⟩) (fun c116 => ?_) (fun c116 => ?_)
                · dsimp only [cmpI] at c116
                  refine AW.go 6 (pc' := 162) rfl ?_
                  refine AW.putf (pn := 165) rfl rfl flX4_68 (by first | assumption | exact set_self (by first | assumption | exact set_self (by first | assumption | exact set_self (by assumption) | exact set_ne (by first | assumption | decide | omega) (by assumption)) | exact set_ne (by first | assumption | decide | omega) (by first | assumption | exact set_self (by assumption) | exact set_ne (by first | assumption | decide | omega) (by assumption))) | exact set_ne (by first | assumption | decide | omega) (by first | assumption | exact set_self (by first | assumption | exact set_self (by assumption) | exact set_ne (by first | assumption | decide | omega) (by assumption)) | exact set_ne (by first | assumption | decide | omega) (by first | assumption | exact set_self (by assumption) | exact set_ne (by first | assumption | decide | omega) (by assumption)))) rfl (by first | trivial | exact bI_01 _ | exact Or.inl rfl | exact Or.inr rfl) ?_
                  refine AW.go 2 (pc' := 167) rfl ?_
                  refine AW.getf (pn := 170) rfl rfl flX4_52 (by first | assumption | exact set_self (by first | assumption | exact set_self (by first | assumption | exact set_self (by assumption) | exact set_ne (by first | assumption | decide | omega) (by assumption)) | exact set_ne (by first | assumption | decide | omega) (by first | assumption | exact set_self (by assumption) | exact set_ne (by first | assumption | decide | omega) (by assumption))) | exact set_ne (by first | assumption | decide | omega) (by first | assumption | exact set_self (by first | assumption | exact set_self (by assumption) | exact set_ne (by first | assumption | decide | omega) (by assumption)) | exact set_ne (by first | assumption | decide | omega) (by first | assumption | exact set_self (by assumption) | exact set_ne (by first | assumption | decide | omega) (by assumption)))) rfl ?_
                  refine AW.bi (tgt := 177) (pn := 173) rfl (by decide) rfl (by first | exact bI_rng _ | exact ⟨by omega, by omega⟩) (by first | exact bI_rng _ | exact ⟨by omega, by omega⟩) (fun c170 => ?_) (fun c170 => ?_)
                  · dsimp only [cmpI] at c170
                    refine AW.go 1 (pc' := 179) rfl ?_
                    refine AW.ret rfl rfl (Nat.le_refl _) (Nat.le_refl _) ?_
                    first
                      | (exfalso; omega)
                      | (have hk : ksg (sga sg pm) = 1 := by omega
                         have hF := ff_at (sga sg pm) pm 1 hk
                         have hN1 := fn_at1 (sga sg pm) pm 1 hk
                         have hN2 := fn_at2 (sga sg pm) pm 1 hk
                         refine ⟨congrArg some ?_, _, rfl, fun q => ?_⟩ <;> omega)
                      | (have hk : ksg (sga sg pm) = 2 := by omega
                         have hF := ff_at (sga sg pm) pm 2 hk
                         have hN1 := fn_at1 (sga sg pm) pm 2 hk
                         have hN2 := fn_at2 (sga sg pm) pm 2 hk
                         refine ⟨congrArg some ?_, _, rfl, fun q => ?_⟩ <;> omega)
                  · dsimp only [cmpI] at c170
                    refine AW.go 2 (pc' := 179) rfl ?_
                    refine AW.ret rfl rfl (Nat.le_refl _) (Nat.le_refl _) ?_
                    first
                      | (exfalso; omega)
                      | (have hk : ksg (sga sg pm) = 1 := by omega
                         have hF := ff_at (sga sg pm) pm 1 hk
                         have hN1 := fn_at1 (sga sg pm) pm 1 hk
                         have hN2 := fn_at2 (sga sg pm) pm 1 hk
                         refine ⟨congrArg some ?_, _, rfl, fun q => ?_⟩ <;> omega)
                      | (have hk : ksg (sga sg pm) = 2 := by omega
                         have hF := ff_at (sga sg pm) pm 2 hk
                         have hN1 := fn_at1 (sga sg pm) pm 2 hk
                         have hN2 := fn_at2 (sga sg pm) pm 2 hk
                         refine ⟨congrArg some ?_, _, rfl, fun q => ?_⟩ <;> omega)
                · dsimp only [cmpI] at c116
                  refine AW.go 3 (pc' := 123) rfl ?_
                  refine AW.callVF (pn := 126) rfl rfl mlX4_64 (by first | assumption | exact set_self (by first | assumption | exact set_self (by first | assumption | exact set_self (by assumption) | exact set_ne (by first | assumption | decide | omega) (by assumption)) | exact set_ne (by first | assumption | decide | omega) (by first | assumption | exact set_self (by assumption) | exact set_ne (by first | assumption | decide | omega) (by assumption))) | exact set_ne (by first | assumption | decide | omega) (by first | assumption | exact set_self (by first | assumption | exact set_self (by assumption) | exact set_ne (by first | assumption | decide | omega) (by assumption)) | exact set_ne (by first | assumption | decide | omega) (by first | assumption | exact set_self (by assumption) | exact set_ne (by first | assumption | decide | omega) (by assumption)))) (c_X4_isSign (d - 1) (by omega) _ _ _ _ _ _ (by first | assumption | exact set_self (by first | assumption | exact set_self (by first | assumption | exact set_self (by assumption) | exact set_ne (by first | assumption | decide | omega) (by assumption)) | exact set_ne (by first | assumption | decide | omega) (by first | assumption | exact set_self (by assumption) | exact set_ne (by first | assumption | decide | omega) (by assumption))) | exact set_ne (by first | assumption | decide | omega) (by first | assumption | exact set_self (by first | assumption | exact set_self (by assumption) | exact set_ne (by first | assumption | decide | omega) (by assumption)) | exact set_ne (by first | assumption | decide | omega) (by first | assumption | exact set_self (by assumption) | exact set_ne (by first | assumption | decide | omega) (by assumption)))) (by omega) _ (by first | assumption | exact set_self (by first | assumption | exact set_self (by first | assumption | exact set_self (by assumption) | exact set_ne (by first | assumption | decide | omega) (by assumption)) | exact set_ne (by first | assumption | decide | omega) (by first | assumption | exact set_self (by assumption) | exact set_ne (by first | assumption | decide | omega) (by assumption))) | exact set_ne (by first | assumption | decide | omega) (by first | assumption | exact set_self (by first | assumption | exact set_self (by assumption) | exact set_ne (by first | assumption | decide | omega) (by assumption)) | exact set_ne (by first | assumption | decide | omega) (by first | assumption | exact set_self (by assumption) | exact set_ne (by first | assumption | decide | omega) (by assumption)))) (by assumption) _ _ (by omega) (by omega)) rfl rfl (Nat.le_of_ble_eq_true rfl) ⟨by show d - 1 + 1 ≤ d; omega, by show 40 * (d - 1 + 1) ≤ 40 * d; omega⟩ ⟨Nat.zero_le _, Nat.zero_le _⟩ ?_
                  refine AW.bnz (tgt := 139) (pn := 129) rfl (by decide) rfl (fun c126 => ?_) (fun c126 => ?_)
                  · refine AW.go 2 (pc' := 142) rfl ?_
                    refine AW.getf (pn := 145) rfl rfl flX4_16 (by first | assumption | exact set_self (by first | assumption | exact set_self (by first | assumption | exact set_self (by assumption) | exact set_ne (by first | assumption | decide | omega) (by assumption)) | exact set_ne (by first | assumption | decide | omega) (by first | assumption | exact set_self (by assumption) | exact set_ne (by first | assumption | decide | omega) (by assumption))) | exact set_ne (by first | assumption | decide | omega) (by first | assumption | exact set_self (by first | assumption | exact set_self (by assumption) | exact set_ne (by first | assumption | decide | omega) (by assumption)) | exact set_ne (by first | assumption | decide | omega) (by first | assumption | exact set_self (by assumption) | exact set_ne (by first | assumption | decide | omega) (by assumption)))) rfl ?_
                    refine AW.go 1 (pc' := 146) rfl ?_
                    refine AW.iald (pn := 147) rfl rfl (by first | assumption | exact set_self (by first | assumption | exact set_self (by first | assumption | exact set_self (by assumption) | exact set_ne (by first | assumption | decide | omega) (by assumption)) | exact set_ne (by first | assumption | decide | omega) (by first | assumption | exact set_self (by assumption) | exact set_ne (by first | assumption | decide | omega) (by assumption))) | exact set_ne (by first | assumption | decide | omega) (by first | assumption | exact set_self (by first | assumption | exact set_self (by assumption) | exact set_ne (by first | assumption | decide | omega) (by assumption)) | exact set_ne (by first | assumption | decide | omega) (by first | assumption | exact set_self (by assumption) | exact set_ne (by first | assumption | decide | omega) (by assumption)))) (by decide) (by omega) (by omega) ?_
                    refine AW.go 11 (pc' := 162) rfl ?_
                    refine AW.putf (pn := 165) rfl rfl flX4_68 (by first | assumption | exact set_self (by first | assumption | exact set_self (by first | assumption | exact set_self (by assumption) | exact set_ne (by first | assumption | decide | omega) (by assumption)) | exact set_ne (by first | assumption | decide | omega) (by first | assumption | exact set_self (by assumption) | exact set_ne (by first | assumption | decide | omega) (by assumption))) | exact set_ne (by first | assumption | decide | omega) (by first | assumption | exact set_self (by first | assumption | exact set_self (by assumption) | exact set_ne (by first | assumption | decide | omega) (by assumption)) | exact set_ne (by first | assumption | decide | omega) (by first | assumption | exact set_self (by assumption) | exact set_ne (by first | assumption | decide | omega) (by assumption)))) rfl (by first | trivial | exact bI_01 _ | exact Or.inl rfl | exact Or.inr rfl) ?_
                    refine AW.go 2 (pc' := 167) rfl ?_
                    refine AW.getf (pn := 170) rfl rfl flX4_52 (by first | assumption | exact set_self (by first | assumption | exact set_self (by first | assumption | exact set_self (by assumption) | exact set_ne (by first | assumption | decide | omega) (by assumption)) | exact set_ne (by first | assumption | decide | omega) (by first | assumption | exact set_self (by assumption) | exact set_ne (by first | assumption | decide | omega) (by assumption))) | exact set_ne (by first | assumption | decide | omega) (by first | assumption | exact set_self (by first | assumption | exact set_self (by assumption) | exact set_ne (by first | assumption | decide | omega) (by assumption)) | exact set_ne (by first | assumption | decide | omega) (by first | assumption | exact set_self (by assumption) | exact set_ne (by first | assumption | decide | omega) (by assumption)))) rfl ?_
                    refine AW.bi (tgt := 177) (pn := 173) rfl (by decide) rfl (by first | exact bI_rng _ | exact ⟨by omega, by omega⟩) (by first | exact bI_rng _ | exact ⟨by omega, by omega⟩) (fun c170 => ?_) (fun c170 => ?_)
                    · dsimp only [cmpI] at c170
                      refine AW.go 1 (pc' := 179) rfl ?_
                      refine AW.ret rfl rfl (Nat.le_refl _) (Nat.le_refl _) ?_
                      first
                        | (exfalso; omega)
                        | (have hk : ksg (sga sg pm) = 1 := by omega
                           have hF := ff_at (sga sg pm) pm 1 hk
                           have hN1 := fn_at1 (sga sg pm) pm 1 hk
                           have hN2 := fn_at2 (sga sg pm) pm 1 hk
                           refine ⟨congrArg some ?_, _, rfl, fun q => ?_⟩ <;> omega)
                        | (have hk : ksg (sga sg pm) = 2 := by omega
                           have hF := ff_at (sga sg pm) pm 2 hk
                           have hN1 := fn_at1 (sga sg pm) pm 2 hk
                           have hN2 := fn_at2 (sga sg pm) pm 2 hk
                           refine ⟨congrArg some ?_, _, rfl, fun q => ?_⟩ <;> omega)
                    · dsimp only [cmpI] at c170
                      refine AW.go 2 (pc' := 179) rfl ?_
                      refine AW.ret rfl rfl (Nat.le_refl _) (Nat.le_refl _) ?_
                      first
                        | (exfalso; omega)
                        | (have hk : ksg (sga sg pm) = 1 := by omega
                           have hF := ff_at (sga sg pm) pm 1 hk
                           have hN1 := fn_at1 (sga sg pm) pm 1 hk
                           have hN2 := fn_at2 (sga sg pm) pm 1 hk
                           refine ⟨congrArg some ?_, _, rfl, fun q => ?_⟩ <;> omega)
                        | (have hk : ksg (sga sg pm) = 2 := by omega
                           have hF := ff_at (sga sg pm) pm 2 hk
                           have hN1 := fn_at1 (sga sg pm) pm 2 hk
                           have hN2 := fn_at2 (sga sg pm) pm 2 hk
                           refine ⟨congrArg some ?_, _, rfl, fun q => ?_⟩ <;> omega)
                  · refine AW.go 3 (pc' := 133) rfl ?_
                    refine AW.callVF (pn := 136) rfl rfl mlX4_64 (by first | assumption | exact set_self (by first | assumption | exact set_self (by first | assumption | exact set_self (by assumption) | exact set_ne (by first | assumption | decide | omega) (by assumption)) | exact set_ne (by first | assumption | decide | omega) (by first | assumption | exact set_self (by assumption) | exact set_ne (by first | assumption | decide | omega) (by assumption))) | exact set_ne (by first | assumption | decide | omega) (by first | assumption | exact set_self (by first | assumption | exact set_self (by assumption) | exact set_ne (by first | assumption | decide | omega) (by assumption)) | exact set_ne (by first | assumption | decide | omega) (by first | assumption | exact set_self (by assumption) | exact set_ne (by first | assumption | decide | omega) (by assumption)))) (c_X4_isSign (d - 1) (by omega) _ _ _ _ _ _ (by first | assumption | exact set_self (by first | assumption | exact set_self (by first | assumption | exact set_self (by assumption) | exact set_ne (by first | assumption | decide | omega) (by assumption)) | exact set_ne (by first | assumption | decide | omega) (by first | assumption | exact set_self (by assumption) | exact set_ne (by first | assumption | decide | omega) (by assumption))) | exact set_ne (by first | assumption | decide | omega) (by first | assumption | exact set_self (by first | assumption | exact set_self (by assumption) | exact set_ne (by first | assumption | decide | omega) (by assumption)) | exact set_ne (by first | assumption | decide | omega) (by first | assumption | exact set_self (by assumption) | exact set_ne (by first | assumption | decide | omega) (by assumption)))) (by omega) _ (by first | assumption | exact set_self (by first | assumption | exact set_self (by first | assumption | exact set_self (by assumption) | exact set_ne (by first | assumption | decide | omega) (by assumption)) | exact set_ne (by first | assumption | decide | omega) (by first | assumption | exact set_self (by assumption) | exact set_ne (by first | assumption | decide | omega) (by assumption))) | exact set_ne (by first | assumption | decide | omega) (by first | assumption | exact set_self (by first | assumption | exact set_self (by assumption) | exact set_ne (by first | assumption | decide | omega) (by assumption)) | exact set_ne (by first | assumption | decide | omega) (by first | assumption | exact set_self (by assumption) | exact set_ne (by first | assumption | decide | omega) (by assumption)))) (by assumption) _ _ (by omega) (by omega)) rfl rfl (Nat.le_of_ble_eq_true rfl) ⟨by show d - 1 + 1 ≤ d; omega, by show 40 * (d - 1 + 1) ≤ 40 * d; omega⟩ ⟨Nat.zero_le _, Nat.zero_le _⟩ ?_
                    refine AW.bz (tgt := 155) (pn := 139) rfl (by decide) rfl (fun c136 => ?_) (fun c136 => ?_)
                    · refine AW.go 6 (pc' := 162) rfl ?_
                      refine AW.putf (pn := 165) rfl rfl flX4_68 (by first | assumption | exact set_self (by first | assumption | exact set_self (by first | assumption | exact set_self (by assumption) | exact set_ne (by first | assumption | decide | omega) (by assumption)) | exact set_ne (by first | assumption | decide | omega) (by first | assumption | exact set_self (by assumption) | exact set_ne (by first | assumption | decide | omega) (by assumption))) | exact set_ne (by first | assumption | decide | omega) (by first | assumption | exact set_self (by first | assumption | exact set_self (by assumption) | exact set_ne (by first | assumption | decide | omega) (by assumption)) | exact set_ne (by first | assumption | decide | omega) (by first | assumption | exact set_self (by assumption) | exact set_ne (by first | assumption | decide | omega) (by assumption)))) rfl (by first | trivial | exact bI_01 _ | exact Or.inl rfl | exact Or.inr rfl) ?_
                      refine AW.go 2 (pc' := 167) rfl ?_
                      refine AW.getf (pn := 170) rfl rfl flX4_52 (by first | assumption | exact set_self (by first | assumption | exact set_self (by first | assumption | exact set_self (by assumption) | exact set_ne (by first | assumption | decide | omega) (by assumption)) | exact set_ne (by first | assumption | decide | omega) (by first | assumption | exact set_self (by assumption) | exact set_ne (by first | assumption | decide | omega) (by assumption))) | exact set_ne (by first | assumption | decide | omega) (by first | assumption | exact set_self (by first | assumption | exact set_self (by assumption) | exact set_ne (by first | assumption | decide | omega) (by assumption)) | exact set_ne (by first | assumption | decide | omega) (by first | assumption | exact set_self (by assumption) | exact set_ne (by first | assumption | decide | omega) (by assumption)))) rfl ?_
                      refine AW.bi (tgt := 177) (pn := 173) rfl (by decide) rfl (by first | exact bI_rng _ | exact ⟨by omega, by omega⟩) (by first | exact bI_rng _ | exact ⟨by omega, by omega⟩) (fun c170 => ?_) (fun c170 => ?_)
                      · dsimp only [cmpI] at c170
                        refine AW.go 1 (pc' := 179) rfl ?_
                        refine AW.ret rfl rfl (Nat.le_refl _) (Nat.le_refl _) ?_
                        first
                          | (exfalso; omega)
                          | (have hk : ksg (sga sg pm) = 1 := by omega
                             have hF := ff_at (sga sg pm) pm 1 hk
                             have hN1 := fn_at1 (sga sg pm) pm 1 hk
                             have hN2 := fn_at2 (sga sg pm) pm 1 hk
                             refine ⟨congrArg some ?_, _, rfl, fun q => ?_⟩ <;> omega)
                          | (have hk : ksg (sga sg pm) = 2 := by omega
                             have hF := ff_at (sga sg pm) pm 2 hk
                             have hN1 := fn_at1 (sga sg pm) pm 2 hk
                             have hN2 := fn_at2 (sga sg pm) pm 2 hk
                             refine ⟨congrArg some ?_, _, rfl, fun q => ?_⟩ <;> omega)
                      · dsimp only [cmpI] at c170
                        refine AW.go 2 (pc' := 179) rfl ?_
                        refine AW.ret rfl rfl (Nat.le_refl _) (Nat.le_refl _) ?_
                        first
                          | (exfalso; omega)
                          | (have hk : ksg (sga sg pm) = 1 := by omega
                             have hF := ff_at (sga sg pm) pm 1 hk
                             have hN1 := fn_at1 (sga sg pm) pm 1 hk
                             have hN2 := fn_at2 (sga sg pm) pm 1 hk
                             refine ⟨congrArg some ?_, _, rfl, fun q => ?_⟩ <;> omega)
                          | (have hk : ksg (sga sg pm) = 2 := by omega
                             have hF := ff_at (sga sg pm) pm 2 hk
                             have hN1 := fn_at1 (sga sg pm) pm 2 hk
                             have hN2 := fn_at2 (sga sg pm) pm 2 hk
                             refine ⟨congrArg some ?_, _, rfl, fun q => ?_⟩ <;> omega)
                    · refine AW.go 2 (pc' := 142) rfl ?_
                      refine AW.getf (pn := 145) rfl rfl flX4_16 (by first | assumption | exact set_self (by first | assumption | exact set_self (by first | assumption | exact set_self (by assumption) | exact set_ne (by first | assumption | decide | omega) (by assumption)) | exact set_ne (by first | assumption | decide | omega) (by first | assumption | exact set_self (by assumption) | exact set_ne (by first | assumption | decide | omega) (by assumption))) | exact set_ne (by first | assumption | decide | omega) (by first | assumption | exact set_self (by first | assumption | exact set_self (by assumption) | exact set_ne (by first | assumption | decide | omega) (by assumption)) | exact set_ne (by first | assumption | decide | omega) (by first | assumption | exact set_self (by assumption) | exact set_ne (by first | assumption | decide | omega) (by assumption)))) rfl ?_
                      refine AW.go 1 (pc' := 146) rfl ?_
                      refine AW.iald (pn := 147) rfl rfl (by first | assumption | exact set_self (by first | assumption | exact set_self (by first | assumption | exact set_self (by assumption) | exact set_ne (by first | assumption | decide | omega) (by assumption)) | exact set_ne (by first | assumption | decide | omega) (by first | assumption | exact set_self (by assumption) | exact set_ne (by first | assumption | decide | omega) (by assumption))) | exact set_ne (by first | assumption | decide | omega) (by first | assumption | exact set_self (by first | assumption | exact set_self (by assumption) | exact set_ne (by first | assumption | decide | omega) (by assumption)) | exact set_ne (by first | assumption | decide | omega) (by first | assumption | exact set_self (by assumption) | exact set_ne (by first | assumption | decide | omega) (by assumption)))) (by decide) (by omega) (by omega) ?_
                      refine AW.go 11 (pc' := 162) rfl ?_
                      refine AW.putf (pn := 165) rfl rfl flX4_68 (by first | assumption | exact set_self (by first | assumption | exact set_self (by first | assumption | exact set_self (by assumption) | exact set_ne (by first | assumption | decide | omega) (by assumption)) | exact set_ne (by first | assumption | decide | omega) (by first | assumption | exact set_self (by assumption) | exact set_ne (by first | assumption | decide | omega) (by assumption))) | exact set_ne (by first | assumption | decide | omega) (by first | assumption | exact set_self (by first | assumption | exact set_self (by assumption) | exact set_ne (by first | assumption | decide | omega) (by assumption)) | exact set_ne (by first | assumption | decide | omega) (by first | assumption | exact set_self (by assumption) | exact set_ne (by first | assumption | decide | omega) (by assumption)))) rfl (by first | trivial | exact bI_01 _ | exact Or.inl rfl | exact Or.inr rfl) ?_
                      refine AW.go 2 (pc' := 167) rfl ?_
                      refine AW.getf (pn := 170) rfl rfl flX4_52 (by first | assumption | exact set_self (by first | assumption | exact set_self (by first | assumption | exact set_self (by assumption) | exact set_ne (by first | assumption | decide | omega) (by assumption)) | exact set_ne (by first | assumption | decide | omega) (by first | assumption | exact set_self (by assumption) | exact set_ne (by first | assumption | decide | omega) (by assumption))) | exact set_ne (by first | assumption | decide | omega) (by first | assumption | exact set_self (by first | assumption | exact set_self (by assumption) | exact set_ne (by first | assumption | decide | omega) (by assumption)) | exact set_ne (by first | assumption | decide | omega) (by first | assumption | exact set_self (by assumption) | exact set_ne (by first | assumption | decide | omega) (by assumption)))) rfl ?_
                      refine AW.bi (tgt := 177) (pn := 173) rfl (by decide) rfl (by first | exact bI_rng _ | exact ⟨by omega, by omega⟩) (by first | exact bI_rng _ | exact ⟨by omega, by omega⟩) (fun c170 => ?_) (fun c170 => ?_)
                      · dsimp only [cmpI] at c170
                        refine AW.go 1 (pc' := 179) rfl ?_
                        refine AW.ret rfl rfl (Nat.le_refl _) (Nat.le_refl _) ?_
                        first
                          | (exfalso; omega)
                          | (have hk : ksg (sga sg pm) = 1 := by omega
                             have hF := ff_at (sga sg pm) pm 1 hk
                             have hN1 := fn_at1 (sga sg pm) pm 1 hk
                             have hN2 := fn_at2 (sga sg pm) pm 1 hk
                             refine ⟨congrArg some ?_, _, rfl, fun q => ?_⟩ <;> omega)
                          | (have hk : ksg (sga sg pm) = 2 := by omega
                             have hF := ff_at (sga sg pm) pm 2 hk
                             have hN1 := fn_at1 (sga sg pm) pm 2 hk
                             have hN2 := fn_at2 (sga sg pm) pm 2 hk
                             refine ⟨congrArg some ?_, _, rfl, fun q => ?_⟩ <;> omega)
                      · dsimp only [cmpI] at c170
                        refine AW.go 2 (pc' := 179) rfl ?_
                        refine AW.ret rfl rfl (Nat.le_refl _) (Nat.le_refl _) ?_
                        first
                          | (exfalso; omega)
                          | (have hk : ksg (sga sg pm) = 1 := by omega
                             have hF := ff_at (sga sg pm) pm 1 hk
                             have hN1 := fn_at1 (sga sg pm) pm 1 hk
                             have hN2 := fn_at2 (sga sg pm) pm 1 hk
                             refine ⟨congrArg some ?_, _, rfl, fun q => ?_⟩ <;> omega)
                          | (have hk : ksg (sga sg pm) = 2 := by omega
                             have hF := ff_at (sga sg pm) pm 2 hk
                             have hN1 := fn_at1 (sga sg pm) pm 2 hk
                             have hN2 := fn_at2 (sga sg pm) pm 2 hk
                             refine ⟨congrArg some ?_, _, rfl, fun q => ?_⟩ <;> omega)
              · refine AW.go 1 (pc' := 100) rfl ?_
                refine AW.ret rfl rfl (Nat.le_refl _) (Nat.le_refl _) ?_
                first
                  | (exfalso; omega)
                  | (have hk : ksg (sga sg pm) = 1 := by omega
                     have hF := ff_at (sga sg pm) pm 1 hk
                     have hN1 := fn_at1 (sga sg pm) pm 1 hk
                     have hN2 := fn_at2 (sga sg pm) pm 1 hk
                     refine ⟨congrArg some ?_, rf, (set_same hO).symm, fun q => ?_⟩ <;> omega)
                  | (have hk : ksg (sga sg pm) = 2 := by omega
                     have hF := ff_at (sga sg pm) pm 2 hk
                     have hN1 := fn_at1 (sga sg pm) pm 2 hk
                     have hN2 := fn_at2 (sga sg pm) pm 2 hk
                     refine ⟨congrArg some ?_, rf, (set_same hO).symm, fun q => ?_⟩ <;> omega)
      · dsimp only [cmpI] at c46
        refine AW.go 1 (pc' := 50) rfl ?_
        refine AW.ret rfl rfl (Nat.le_refl _) (Nat.le_refl _) ?_
        first
          | (exfalso; omega)
          | (have hk : ksg (sga sg pm) = 0 := by omega
             have hF := ff_at (sga sg pm) pm 0 hk
             refine ⟨congrArg some ?_, rf, (set_same hO).symm, fun q => ?_⟩ <;> omega)
  · refine AW.go 4 (pc' := 46) rfl ?_
    refine AW.br (tgt := 51) (pn := 49) rfl (by decide) rfl (by first | exact bI_rng _ | exact ⟨by omega, by omega⟩) (fun c46 => ?_) (fun c46 => ?_)
    · dsimp only [cmpI] at c46
      refine AW.go 4 (pc' := 55) rfl ?_
      refine AW.bi (tgt := 72) (pn := 58) rfl (by decide) rfl (by first | exact bI_rng _ | exact ⟨by omega, by omega⟩) (by first | exact bI_rng _ | exact ⟨by omega, by omega⟩) (fun c55 => ?_) (fun c55 => ?_)
      · dsimp only [cmpI] at c55
        refine AW.go 2 (pc' := 74) rfl ?_
        refine AW.getf (pn := 77) rfl rfl flX4_52 (by first | assumption | exact set_self (by first | assumption | exact set_self (by first | assumption | exact set_self (by assumption) | exact set_ne (by first | assumption | decide | omega) (by assumption)) | exact set_ne (by first | assumption | decide | omega) (by first | assumption | exact set_self (by assumption) | exact set_ne (by first | assumption | decide | omega) (by assumption))) | exact set_ne (by first | assumption | decide | omega) (by first | assumption | exact set_self (by first | assumption | exact set_self (by assumption) | exact set_ne (by first | assumption | decide | omega) (by assumption)) | exact set_ne (by first | assumption | decide | omega) (by first | assumption | exact set_self (by assumption) | exact set_ne (by first | assumption | decide | omega) (by assumption)))) rfl ?_
        refine AW.bi (tgt := 99) (pn := 80) rfl (by decide) rfl (by first | exact bI_rng _ | exact ⟨by omega, by omega⟩) (by first | exact bI_rng _ | exact ⟨by omega, by omega⟩) (fun c77 => ?_) (fun c77 => ?_)
        · dsimp only [cmpI] at c77
          refine AW.go 1 (pc' := 100) rfl ?_
          refine AW.ret rfl rfl (Nat.le_refl _) (Nat.le_refl _) ?_
          first
            | (exfalso; omega)
            | (have hk : ksg (sga sg pm) = 1 := by omega
               have hF := ff_at (sga sg pm) pm 1 hk
               have hN1 := fn_at1 (sga sg pm) pm 1 hk
               have hN2 := fn_at2 (sga sg pm) pm 1 hk
               refine ⟨congrArg some ?_, rf, (set_same hO).symm, fun q => ?_⟩ <;> omega)
            | (have hk : ksg (sga sg pm) = 2 := by omega
               have hF := ff_at (sga sg pm) pm 2 hk
               have hN1 := fn_at1 (sga sg pm) pm 2 hk
               have hN2 := fn_at2 (sga sg pm) pm 2 hk
               refine ⟨congrArg some ?_, rf, (set_same hO).symm, fun q => ?_⟩ <;> omega)
        · dsimp only [cmpI] at c77
          refine AW.go 1 (pc' := 81) rfl ?_
          refine AW.getf (pn := 84) rfl rfl flX4_16 (by first | assumption | exact set_self (by first | assumption | exact set_self (by first | assumption | exact set_self (by assumption) | exact set_ne (by first | assumption | decide | omega) (by assumption)) | exact set_ne (by first | assumption | decide | omega) (by first | assumption | exact set_self (by assumption) | exact set_ne (by first | assumption | decide | omega) (by assumption))) | exact set_ne (by first | assumption | decide | omega) (by first | assumption | exact set_self (by first | assumption | exact set_self (by assumption) | exact set_ne (by first | assumption | decide | omega) (by assumption)) | exact set_ne (by first | assumption | decide | omega) (by first | assumption | exact set_self (by assumption) | exact set_ne (by first | assumption | decide | omega) (by assumption)))) rfl ?_
          refine AW.go 1 (pc' := 85) rfl ?_
          refine AW.iald (pn := 86) rfl rfl (by first | assumption | exact set_self (by first | assumption | exact set_self (by first | assumption | exact set_self (by assumption) | exact set_ne (by first | assumption | decide | omega) (by assumption)) | exact set_ne (by first | assumption | decide | omega) (by first | assumption | exact set_self (by assumption) | exact set_ne (by first | assumption | decide | omega) (by assumption))) | exact set_ne (by first | assumption | decide | omega) (by first | assumption | exact set_self (by first | assumption | exact set_self (by assumption) | exact set_ne (by first | assumption | decide | omega) (by assumption)) | exact set_ne (by first | assumption | decide | omega) (by first | assumption | exact set_self (by assumption) | exact set_ne (by first | assumption | decide | omega) (by assumption)))) (by decide) (by omega) (by omega) ?_
          refine AW.i2l (pn := 87) rfl rfl (by first | exact bI_rng _ | exact ⟨by omega, by omega⟩) ?_
          refine AW.ldc2 (pn := 90) rfl rfl clX4_56 ?_
          refine AW.ldc2 (pn := 93) rfl rfl clX4_58 ?_
          refine AW.callSF (pn := 96) rfl rfl mlX4_40 (c_X4_in (d - 1) (by omega) _ _ _ _ (by omega) (by omega) (by omega)) rfl rfl (Nat.le_of_ble_eq_true rfl) ⟨by show d - 1 + 1 ≤ d; omega, by show 40 * (d - 1 + 1) ≤ 40 * d; omega⟩ ⟨Nat.zero_le _, Nat.zero_le _⟩ ?_
          refine AW.bnz (tgt := 101) (pn := 99) rfl (by decide) rfl (fun c96 => ?_) (fun c96 => ?_)
          · refine AW.go 1 (pc' := 102) rfl ?_
            refine AW.getf (pn := 105) rfl rfl flX4_16 (by first | assumption | exact set_self (by first | assumption | exact set_self (by first | assumption | exact set_self (by assumption) | exact set_ne (by first | assumption | decide | omega) (by assumption)) | exact set_ne (by first | assumption | decide | omega) (by first | assumption | exact set_self (by assumption) | exact set_ne (by first | assumption | decide | omega) (by assumption))) | exact set_ne (by first | assumption | decide | omega) (by first | assumption | exact set_self (by first | assumption | exact set_self (by assumption) | exact set_ne (by first | assumption | decide | omega) (by assumption)) | exact set_ne (by first | assumption | decide | omega) (by first | assumption | exact set_self (by assumption) | exact set_ne (by first | assumption | decide | omega) (by assumption)))) rfl ?_
            refine AW.go 1 (pc' := 106) rfl ?_
            refine AW.iald (pn := 107) rfl rfl (by first | assumption | exact set_self (by first | assumption | exact set_self (by first | assumption | exact set_self (by assumption) | exact set_ne (by first | assumption | decide | omega) (by assumption)) | exact set_ne (by first | assumption | decide | omega) (by first | assumption | exact set_self (by assumption) | exact set_ne (by first | assumption | decide | omega) (by assumption))) | exact set_ne (by first | assumption | decide | omega) (by first | assumption | exact set_self (by first | assumption | exact set_self (by assumption) | exact set_ne (by first | assumption | decide | omega) (by assumption)) | exact set_ne (by first | assumption | decide | omega) (by first | assumption | exact set_self (by assumption) | exact set_ne (by first | assumption | decide | omega) (by assumption)))) (by decide) (by omega) (by omega) ?_
            refine AW.go 6 (pc' := 116) rfl ?_
            refine AW.bi (tgt := 155) (pn := 119) rfl (by decide) rfl (by first | exact bI_rng _ | exact ⟨by omega, by omega⟩) (by first | exact bI_rng _ | exact ⟨by omega, by omega⟩) (fun c116 => ?_) (fun c116 => ?_)
            · dsimp only [cmpI] at c116
              refine AW.go 6 (pc' := 162) rfl ?_
              refine AW.putf (pn := 165) rfl rfl flX4_68 (by first | assumption | exact set_self (by first | assumption | exact set_self (by first | assumption | exact set_self (by assumption) | exact set_ne (by first | assumption | decide | omega) (by assumption)) | exact set_ne (by first | assumption | decide | omega) (by first | assumption | exact set_self (by assumption) | exact set_ne (by first | assumption | decide | omega) (by assumption))) | exact set_ne (by first | assumption | decide | omega) (by first | assumption | exact set_self (by first | assumption | exact set_self (by assumption) | exact set_ne (by first | assumption | decide | omega) (by assumption)) | exact set_ne (by first | assumption | decide | omega) (by first | assumption | exact set_self (by assumption) | exact set_ne (by first | assumption | decide | omega) (by assumption)))) rfl (by first | trivial | exact bI_01 _ | exact Or.inl rfl | exact Or.inr rfl) ?_
              refine AW.go 2 (pc' := 167) rfl ?_
              refine AW.getf (pn := 170) rfl rfl flX4_52 (by first | assumption | exact set_self (by first | assumption | exact set_self (by first | assumption | exact set_self (by assumption) | exact set_ne (by first | assumption | decide | omega) (by assumption)) | exact set_ne (by first | assumption | decide | omega) (by first | assumption | exact set_self (by assumption) | exact set_ne (by first | assumption | decide | omega) (by assumption))) | exact set_ne (by first | assumption | decide | omega) (by first | assumption | exact set_self (by first | assumption | exact set_self (by assumption) | exact set_ne (by first | assumption | decide | omega) (by assumption)) | exact set_ne (by first | assumption | decide | omega) (by first | assumption | exact set_self (by assumption) | exact set_ne (by first | assumption | decide | omega) (by assumption)))) rfl ?_
              refine AW.bi (tgt := 177) (pn := 173) rfl (by decide) rfl (by first | exact bI_rng _ | exact ⟨by omega, by omega⟩) (by first | exact bI_rng _ | exact ⟨by omega, by omega⟩) (fun c170 => ?_) (fun c170 => ?_)
              · dsimp only [cmpI] at c170
                refine AW.go 1 (pc' := 179) rfl ?_
                refine AW.ret rfl rfl (Nat.le_refl _) (Nat.le_refl _) ?_
                first
                  | (exfalso; omega)
                  | (have hk : ksg (sga sg pm) = 1 := by omega
                     have hF := ff_at (sga sg pm) pm 1 hk
                     have hN1 := fn_at1 (sga sg pm) pm 1 hk
                     have hN2 := fn_at2 (sga sg pm) pm 1 hk
                     refine ⟨congrArg some ?_, _, rfl, fun q => ?_⟩ <;> omega)
                  | (have hk : ksg (sga sg pm) = 2 := by omega
                     have hF := ff_at (sga sg pm) pm 2 hk
                     have hN1 := fn_at1 (sga sg pm) pm 2 hk
                     have hN2 := fn_at2 (sga sg pm) pm 2 hk
                     refine ⟨congrArg some ?_, _, rfl, fun q => ?_⟩ <;> omega)
              · dsimp only [cmpI] at c170
                refine AW.go 2 (pc' := 179) rfl ?_
                refine AW.ret rfl rfl (Nat.le_refl _) (Nat.le_refl _) ?_
                first
                  | (exfalso; omega)
                  | (have hk : ksg (sga sg pm) = 1 := by omega
                     have hF := ff_at (sga sg pm) pm 1 hk
                     have hN1 := fn_at1 (sga sg pm) pm 1 hk
                     have hN2 := fn_at2 (sga sg pm) pm 1 hk
                     refine ⟨congrArg some ?_, _, rfl, fun q => ?_⟩ <;> omega)
                  | (have hk : ksg (sga sg pm) = 2 := by omega
                     have hF := ff_at (sga sg pm) pm 2 hk
                     have hN1 := fn_at1 (sga sg pm) pm 2 hk
                     have hN2 := fn_at2 (sga sg pm) pm 2 hk
                     refine ⟨congrArg some ?_, _, rfl, fun q => ?_⟩ <;> omega)
            · dsimp only [cmpI] at c116
              refine AW.go 3 (pc' := 123) rfl ?_
              refine AW.callVF (pn := 126) rfl rfl mlX4_64 (by first | assumption | exact set_self (by first | assumption | exact set_self (by first | assumption | exact set_self (by assumption) | exact set_ne (by first | assumption | decide | omega) (by assumption)) | exact set_ne (by first | assumption | decide | omega) (by first | assumption | exact set_self (by assumption) | exact set_ne (by first | assumption | decide | omega) (by assumption))) | exact set_ne (by first | assumption | decide | omega) (by first | assumption | exact set_self (by first | assumption | exact set_self (by assumption) | exact set_ne (by first | assumption | decide | omega) (by assumption)) | exact set_ne (by first | assumption | decide | omega) (by first | assumption | exact set_self (by assumption) | exact set_ne (by first | assumption | decide | omega) (by assumption)))) (c_X4_isSign (d - 1) (by omega) _ _ _ _ _ _ (by first | assumption | exact set_self (by first | assumption | exact set_self (by first | assumption | exact set_self (by assumption) | exact set_ne (by first | assumption | decide | omega) (by assumption)) | exact set_ne (by first | assumption | decide | omega) (by first | assumption | exact set_self (by assumption) | exact set_ne (by first | assumption | decide | omega) (by assumption))) | exact set_ne (by first | assumption | decide | omega) (by first | assumption | exact set_self (by first | assumption | exact set_self (by assumption) | exact set_ne (by first | assumption | decide | omega) (by assumption)) | exact set_ne (by first | assumption | decide | omega) (by first | assumption | exact set_self (by assumption) | exact set_ne (by first | assumption | decide | omega) (by assumption)))) (by omega) _ (by first | assumption | exact set_self (by first | assumption | exact set_self (by first | assumption | exact set_self (by assumption) | exact set_ne (by first | assumption | decide | omega) (by assumption)) | exact set_ne (by first | assumption | decide | omega) (by first | assumption | exact set_self (by assumption) | exact set_ne (by first | assumption | decide | omega) (by assumption))) | exact set_ne (by first | assumption | decide | omega) (by first | assumption | exact set_self (by first | assumption | exact set_self (by assumption) | exact set_ne (by first | assumption | decide | omega) (by assumption)) | exact set_ne (by first | assumption | decide | omega) (by first | assumption | exact set_self (by assumption) | exact set_ne (by first | assumption | decide | omega) (by assumption)))) (by assumption) _ _ (by omega) (by omega)) rfl rfl (Nat.le_of_ble_eq_true rfl) ⟨by show d - 1 + 1 ≤ d; omega, by show 40 * (d - 1 + 1) ≤ 40 * d; omega⟩ ⟨Nat.zero_le _, Nat.zero_le _⟩ ?_
              refine AW.bnz (tgt := 139) (pn := 129) rfl (by decide) rfl (fun c126 => ?_) (fun c126 => ?_)
              · refine AW.go 2 (pc' := 142) rfl ?_
                refine AW.getf (pn := 145) rfl rfl flX4_16 (by first | assumption | exact set_self (by first | assumption | exact set_self (by first | assumption | exact set_self (by assumption) | exact set_ne (by first | assumption | decide | omega) (by assumption)) | exact set_ne (by first | assumption | decide | omega) (by first | assumption | exact set_self (by assumption) | exact set_ne (by first | assumption | decide | omega) (by assumption))) | exact set_ne (by first | assumption | decide | omega) (by first | assumption | exact set_self (by first | assumption | exact set_self (by assumption) | exact set_ne (by first | assumption | decide | omega) (by assumption)) | exact set_ne (by first | assumption | decide | omega) (by first | assumption | exact set_self (by assumption) | exact set_ne (by first | assumption | decide | omega) (by assumption)))) rfl ?_
                refine AW.go 1 (pc' := 146) rfl ?_
                refine AW.iald (pn := 147) rfl rfl (by first | assumption | exact set_self (by first | assumption | exact set_self (by first | assumption | exact set_self (by assumption) | exact set_ne (by first | assumption | decide | omega) (by assumption)) | exact set_ne (by first | assumption | decide | omega) (by first | assumption | exact set_self (by assumption) | exact set_ne (by first | assumption | decide | omega) (by assumption))) | exact set_ne (by first | assumption | decide | omega) (by first | assumption | exact set_self (by first | assumption | exact set_self (by assumption) | exact set_ne (by first | assumption | decide | omega) (by assumption)) | exact set_ne (by first | assumption | decide | omega) (by first | assumption | exact set_self (by assumption) | exact set_ne (by first | assumption | decide | omega) (by assumption)))) (by decide) (by omega) (by omega) ?_
                refine AW.go 11 (pc' := 162) rfl ?_
                refine AW.putf (pn := 165) rfl rfl flX4_68 (by first | assumption | exact set_self (by first | assumption | exact set_self (by first | assumption | exact set_self (by assumption) | exact set_ne (by first | assumption | decide | omega) (by assumption)) | exact set_ne (by first | assumption | decide | omega) (by first | assumption | exact set_self (by assumption) | exact set_ne (by first | assumption | decide | omega) (by assumption))) | exact set_ne (by first | assumption | decide | omega) (by first | assumption | exact set_self (by first | assumption | exact set_self (by assumption) | exact set_ne (by first | assumption | decide | omega) (by assumption)) | exact set_ne (by first | assumption | decide | omega) (by first | assumption | exact set_self (by assumption) | exact set_ne (by first | assumption | decide | omega) (by assumption)))) rfl (by first | trivial | exact bI_01 _ | exact Or.inl rfl | exact Or.inr rfl) ?_
                refine AW.go 2 (pc' := 167) rfl ?_
                refine AW.getf (pn := 170) rfl rfl flX4_52 (by first | assumption | exact set_self (by first | assumption | exact set_self (by first | assumption | exact set_self (by assumption) | exact set_ne (by first | assumption | decide | omega) (by assumption)) | exact set_ne (by first | assumption | decide | omega) (by first | assumption | exact set_self (by assumption) | exact set_ne (by first | assumption | decide | omega) (by assumption))) | exact set_ne (by first | assumption | decide | omega) (by first | assumption | exact set_self (by first | assumption | exact set_self (by assumption) | exact set_ne (by first | assumption | decide | omega) (by assumption)) | exact set_ne (by first | assumption | decide | omega) (by first | assumption | exact set_self (by assumption) | exact set_ne (by first | assumption | decide | omega) (by assumption)))) rfl ?_
                refine AW.bi (tgt := 177) (pn := 173) rfl (by decide) rfl (by first | exact bI_rng _ | exact ⟨by omega, by omega⟩) (by first | exact bI_rng _ | exact ⟨by omega, by omega⟩) (fun c170 => ?_) (fun c170 => ?_)
                · dsimp only [cmpI] at c170
                  refine AW.go 1 (pc' := 179) rfl ?_
                  refine AW.ret rfl rfl (Nat.le_refl _) (Nat.le_refl _) ?_
                  first
                    | (exfalso; omega)
                    | (have hk : ksg (sga sg pm) = 1 := by omega
                       have hF := ff_at (sga sg pm) pm 1 hk
                       have hN1 := fn_at1 (sga sg pm) pm 1 hk
                       have hN2 := fn_at2 (sga sg pm) pm 1 hk
                       refine ⟨congrArg some ?_, _, rfl, fun q => ?_⟩ <;> omega)
                    | (have hk : ksg (sga sg pm) = 2 := by omega
                       have hF := ff_at (sga sg pm) pm 2 hk
                       have hN1 := fn_at1 (sga sg pm) pm 2 hk
                       have hN2 := fn_at2 (sga sg pm) pm 2 hk
                       refine ⟨congrArg some ?_, _, rfl, fun q => ?_⟩ <;> omega)
                · dsimp only [cmpI] at c170
                  refine AW.go 2 (pc' := 179) rfl ?_
                  refine AW.ret rfl rfl (Nat.le_refl _) (Nat.le_refl _) ?_
                  first
                    | (exfalso; omega)
                    | (have hk : ksg (sga sg pm) = 1 := by omega
                       have hF := ff_at (sga sg pm) pm 1 hk
                       have hN1 := fn_at1 (sga sg pm) pm 1 hk
                       have hN2 := fn_at2 (sga sg pm) pm 1 hk
                       refine ⟨congrArg some ?_, _, rfl, fun q => ?_⟩ <;> omega)
                    | (have hk : ksg (sga sg pm) = 2 := by omega
                       have hF := ff_at (sga sg pm) pm 2 hk
                       have hN1 := fn_at1 (sga sg pm) pm 2 hk
                       have hN2 := fn_at2 (sga sg pm) pm 2 hk
                       refine ⟨congrArg some ?_, _, rfl, fun q => ?_⟩ <;> omega)
              · refine AW.go 3 (pc' := 133) rfl ?_
                refine AW.callVF (pn := 136) rfl rfl mlX4_64 (by first | assumption | exact set_self (by first | assumption | exact set_self (by first | assumption | exact set_self (by assumption) | exact set_ne (by first | assumption | decide | omega) (by assumption)) | exact set_ne (by first | assumption | decide | omega) (by first | assumption | exact set_self (by assumption) | exact set_ne (by first | assumption | decide | omega) (by assumption))) | exact set_ne (by first | assumption | decide | omega) (by first | assumption | exact set_self (by first | assumption | exact set_self (by assumption) | exact set_ne (by first | assumption | decide | omega) (by assumption)) | exact set_ne (by first | assumption | decide | omega) (by first | assumption | exact set_self (by assumption) | exact set_ne (by first | assumption | decide | omega) (by assumption)))) (c_X4_isSign (d - 1) (by omega) _ _ _ _ _ _ (by first | assumption | exact set_self (by first | assumption | exact set_self (by first | assumption | exact set_self (by assumption) | exact set_ne (by first | assumption | decide | omega) (by assumption)) | exact set_ne (by first | assumption | decide | omega) (by first | assumption | exact set_self (by assumption) | exact set_ne (by first | assumption | decide | omega) (by assumption))) | exact set_ne (by first | assumption | decide | omega) (by first | assumption | exact set_self (by first | assumption | exact set_self (by assumption) | exact set_ne (by first | assumption | decide | omega) (by assumption)) | exact set_ne (by first | assumption | decide | omega) (by first | assumption | exact set_self (by assumption) | exact set_ne (by first | assumption | decide | omega) (by assumption)))) (by omega) _ (by first | assumption | exact set_self (by first | assumption | exact set_self (by first | assumption | exact set_self (by assumption) | exact set_ne (by first | assumption | decide | omega) (by assumption)) | exact set_ne (by first | assumption | decide | omega) (by first | assumption | exact set_self (by assumption) | exact set_ne (by first | assumption | decide | omega) (by assumption))) | exact set_ne (by first | assumption | decide | omega) (by first | assumption | exact set_self (by first | assumption | exact set_self (by assumption) | exact set_ne (by first | assumption | decide | omega) (by assumption)) | exact set_ne (by first | assumption | decide | omega) (by first | assumption | exact set_self (by assumption) | exact set_ne (by first | assumption | decide | omega) (by assumption)))) (by assumption) _ _ (by omega) (by omega)) rfl rfl (Nat.le_of_ble_eq_true rfl) ⟨by show d - 1 + 1 ≤ d; omega, by show 40 * (d - 1 + 1) ≤ 40 * d; omega⟩ ⟨Nat.zero_le _, Nat.zero_le _⟩ ?_
                refine AW.bz (tgt := 155) (pn := 139) rfl (by decide) rfl (fun c136 => ?_) (fun c136 => ?_)
                · refine AW.go 6 (pc' := 162) rfl ?_
                  refine AW.putf (pn := 165) rfl rfl flX4_68 (by first | assumption | exact set_self (by first | assumption | exact set_self (by first | assumption | exact set_self (by assumption) | exact set_ne (by first | assumption | decide | omega) (by assumption)) | exact set_ne (by first | assumption | decide | omega) (by first | assumption | exact set_self (by assumption) | exact set_ne (by first | assumption | decide | omega) (by assumption))) | exact set_ne (by first | assumption | decide | omega) (by first | assumption | exact set_self (by first | assumption | exact set_self (by assumption) | exact set_ne (by first | assumption | decide | omega) (by assumption)) | exact set_ne (by first | assumption | decide | omega) (by first | assumption | exact set_self (by assumption) | exact set_ne (by first | assumption | decide | omega) (by assumption)))) rfl (by first | trivial | exact bI_01 _ | exact Or.inl rfl | exact Or.inr rfl) ?_
                  refine AW.go 2 (pc' := 167) rfl ?_
                  refine AW.getf (pn := 170) rfl rfl flX4_52 (by first | assumption | exact set_self (by first | assumption | exact set_self (by first | assumption | exact set_self (by assumption) | exact set_ne (by first | assumption | decide | omega) (by assumption)) | exact set_ne (by first | assumption | decide | omega) (by first | assumption | exact set_self (by assumption) | exact set_ne (by first | assumption | decide | omega) (by assumption))) | exact set_ne (by first | assumption | decide | omega) (by first | assumption | exact set_self (by first | assumption | exact set_self (by assumption) | exact set_ne (by first | assumption | decide | omega) (by assumption)) | exact set_ne (by first | assumption | decide | omega) (by first | assumption | exact set_self (by assumption) | exact set_ne (by first | assumption | decide | omega) (by assumption)))) rfl ?_
                  refine AW.bi (tgt := 177) (pn := 173) rfl (by decide) rfl (by first | exact bI_rng _ | exact ⟨by omega, by omega⟩) (by first | exact bI_rng _ | exact ⟨by omega, by omega⟩) (fun c170 => ?_) (fun c170 => ?_)
                  · dsimp only [cmpI] at c170
                    refine AW.go 1 (pc' := 179) rfl ?_
                    refine AW.ret rfl rfl (Nat.le_refl _) (Nat.le_refl _) ?_
                    first
                      | (exfalso; omega)
                      | (have hk : ksg (sga sg pm) = 1 := by omega
                         have hF := ff_at (sga sg pm) pm 1 hk
                         have hN1 := fn_at1 (sga sg pm) pm 1 hk
                         have hN2 := fn_at2 (sga sg pm) pm 1 hk
                         refine ⟨congrArg some ?_, _, rfl, fun q => ?_⟩ <;> omega)
                      | (have hk : ksg (sga sg pm) = 2 := by omega
                         have hF := ff_at (sga sg pm) pm 2 hk
                         have hN1 := fn_at1 (sga sg pm) pm 2 hk
                         have hN2 := fn_at2 (sga sg pm) pm 2 hk
                         refine ⟨congrArg some ?_, _, rfl, fun q => ?_⟩ <;> omega)
                  · dsimp only [cmpI] at c170
                    refine AW.go 2 (pc' := 179) rfl ?_
                    refine AW.ret rfl rfl (Nat.le_refl _) (Nat.le_refl _) ?_
                    first
                      | (exfalso; omega)
                      | (have hk : ksg (sga sg pm) = 1 := by omega
                         have hF := ff_at (sga sg pm) pm 1 hk
                         have hN1 := fn_at1 (sga sg pm) pm 1 hk
                         have hN2 := fn_at2 (sga sg pm) pm 1 hk
                         refine ⟨congrArg some ?_, _, rfl, fun q => ?_⟩ <;> omega)
                      | (have hk : ksg (sga sg pm) = 2 := by omega
                         have hF := ff_at (sga sg pm) pm 2 hk
                         have hN1 := fn_at1 (sga sg pm) pm 2 hk
                         have hN2 := fn_at2 (sga sg pm) pm 2 hk
                         refine ⟨congrArg some ?_, _, rfl, fun q => ?_⟩ <;> omega)
                · refine AW.go 2 (pc' := 142) rfl ?_
                  refine AW.getf (pn := 145) rfl rfl flX4_16 (by first | assumption | exact set_self (by first | assumption | exact set_self (by first | assumption | exact set_self (by assumption) | exact set_ne (by first | assumption | decide | omega) (by assumption)) | exact set_ne (by first | assumption | decide | omega) (by first | assumption | exact set_self (by assumption) | exact set_ne (by first | assumption | decide | omega) (by assumption))) | exact set_ne (by first | assumption | decide | omega) (by first | assumption | exact set_self (by first | assumption | exact set_self (by assumption) | exact set_ne (by first | assumption | decide | omega) (by assumption)) | exact set_ne (by first | assumption | decide | omega) (by first | assumption | exact set_self (by assumption) | exact set_ne (by first | assumption | decide | omega) (by assumption)))) rfl ?_
                  refine AW.go 1 (pc' := 146) rfl ?_
                  refine AW.iald (pn := 147) rfl rfl (by first | assumption | exact set_self (by first | assumption | exact set_self (by first | assumption | exact set_self (by assumption) | exact set_ne (by first | assumption | decide | omega) (by assumption)) | exact set_ne (by first | assumption | decide | omega) (by first | assumption | exact set_self (by assumption) | exact set_ne (by first | assumption | decide | omega) (by assumption))) | exact set_ne (by first | assumption | decide | omega) (by first | assumption | exact set_self (by first | assumption | exact set_self (by assumption) | exact set_ne (by first | assumption | decide | omega) (by assumption)) | exact set_ne (by first | assumption | decide | omega) (by first | assumption | exact set_self (by assumption) | exact set_ne (by first | assumption | decide | omega) (by assumption)))) (by decide) (by omega) (by omega) ?_
                  refine AW.go 11 (pc' := 162) rfl ?_
                  refine AW.putf (pn := 165) rfl rfl flX4_68 (by first | assumption | exact set_self (by first | assumption | exact set_self (by first | assumption | exact set_self (by assumption) | exact set_ne (by first | assumption | decide | omega) (by assumption)) | exact set_ne (by first | assumption | decide | omega) (by first | assumption | exact set_self (by assumption) | exact set_ne (by first | assumption | decide | omega) (by assumption))) | exact set_ne (by first | assumption | decide | omega) (by first | assumption | exact set_self (by first | assumption | exact set_self (by assumption) | exact set_ne (by first | assumption | decide | omega) (by assumption)) | exact set_ne (by first | assumption | decide | omega) (by first | assumption | exact set_self (by assumption) | exact set_ne (by first | assumption | decide | omega) (by assumption)))) rfl (by first | trivial | exact bI_01 _ | exact Or.inl rfl | exact Or.inr rfl) ?_
                  refine AW.go 2 (pc' := 167) rfl ?_
                  refine AW.getf (pn := 170) rfl rfl flX4_52 (by first | assumption | exact set_self (by first | assumption | exact set_self (by first | assumption | exact set_self (by assumption) | exact set_ne (by first | assumption | decide | omega) (by assumption)) | exact set_ne (by first | assumption | decide | omega) (by first | assumption | exact set_self (by assumption) | exact set_ne (by first | assumption | decide | omega) (by assumption))) | exact set_ne (by first | assumption | decide | omega) (by first | assumption | exact set_self (by first | assumption | exact set_self (by assumption) | exact set_ne (by first | assumption | decide | omega) (by assumption)) | exact set_ne (by first | assumption | decide | omega) (by first | assumption | exact set_self (by assumption) | exact set_ne (by first | assumption | decide | omega) (by assumption)))) rfl ?_
                  refine AW.bi (tgt := 177) (pn := 173) rfl (by decide) rfl (by first | exact bI_rng _ | exact ⟨by omega, by omega⟩) (by first | exact bI_rng _ | exact ⟨by omega, by omega⟩) (fun c170 => ?_) (fun c170 => ?_)
                  · dsimp only [cmpI] at c170
                    refine AW.go 1 (pc' := 179) rfl ?_
                    refine AW.ret rfl rfl (Nat.le_refl _) (Nat.le_refl _) ?_
                    first
                      | (exfalso; omega)
                      | (have hk : ksg (sga sg pm) = 1 := by omega
                         have hF := ff_at (sga sg pm) pm 1 hk
                         have hN1 := fn_at1 (sga sg pm) pm 1 hk
                         have hN2 := fn_at2 (sga sg pm) pm 1 hk
                         refine ⟨congrArg some ?_, _, rfl, fun q => ?_⟩ <;> omega)
                      | (have hk : ksg (sga sg pm) = 2 := by omega
                         have hF := ff_at (sga sg pm) pm 2 hk
                         have hN1 := fn_at1 (sga sg pm) pm 2 hk
                         have hN2 := fn_at2 (sga sg pm) pm 2 hk
                         refine ⟨congrArg some ?_, _, rfl, fun q => ?_⟩ <;> omega)
                  · dsimp only [cmpI] at c170
                    refine AW.go 2 (pc' := 179) rfl ?_
                    refine AW.ret rfl rfl (Nat.le_refl _) (Nat.le_refl _) ?_
                    first
                      | (exfalso; omega)
                      | (have hk : ksg (sga sg pm) = 1 := by omega
                         have hF := ff_at (sga sg pm) pm 1 hk
                         have hN1 := fn_at1 (sga sg pm) pm 1 hk
                         have hN2 := fn_at2 (sga sg pm) pm 1 hk
                         refine ⟨congrArg some ?_, _, rfl, fun q => ?_⟩ <;> omega)
                      | (have hk : ksg (sga sg pm) = 2 := by omega
                         have hF := ff_at (sga sg pm) pm 2 hk
                         have hN1 := fn_at1 (sga sg pm) pm 2 hk
                         have hN2 := fn_at2 (sga sg pm) pm 2 hk
                         refine ⟨congrArg some ?_, _, rfl, fun q => ?_⟩ <;> omega)
          · refine AW.go 1 (pc' := 100) rfl ?_
            refine AW.ret rfl rfl (Nat.le_refl _) (Nat.le_refl _) ?_
            first
              | (exfalso; omega)
              | (have hk : ksg (sga sg pm) = 1 := by omega
                 have hF := ff_at (sga sg pm) pm 1 hk
                 have hN1 := fn_at1 (sga sg pm) pm 1 hk
                 have hN2 := fn_at2 (sga sg pm) pm 1 hk
                 refine ⟨congrArg some ?_, rf, (set_same hO).symm, fun q => ?_⟩ <;> omega)
              | (have hk : ksg (sga sg pm) = 2 := by omega
                 have hF := ff_at (sga sg pm) pm 2 hk
                 have hN1 := fn_at1 (sga sg pm) pm 2 hk
                 have hN2 := fn_at2 (sga sg pm) pm 2 hk
                 refine ⟨congrArg some ?_, rf, (set_same hO).symm, fun q => ?_⟩ <;> omega)
      · dsimp only [cmpI] at c55
        refine AW.go 3 (pc' := 62) rfl ?_
        refine AW.callVF (pn := 65) rfl rfl mlX4_64 (by first | assumption | exact set_self (by first | assumption | exact set_self (by first | assumption | exact set_self (by assumption) | exact set_ne (by first | assumption | decide | omega) (by assumption)) | exact set_ne (by first | assumption | decide | omega) (by first | assumption | exact set_self (by assumption) | exact set_ne (by first | assumption | decide | omega) (by assumption))) | exact set_ne (by first | assumption | decide | omega) (by first | assumption | exact set_self (by first | assumption | exact set_self (by assumption) | exact set_ne (by first | assumption | decide | omega) (by assumption)) | exact set_ne (by first | assumption | decide | omega) (by first | assumption | exact set_self (by assumption) | exact set_ne (by first | assumption | decide | omega) (by assumption)))) (c_X4_isSign (d - 1) (by omega) _ _ _ _ _ _ (by first | assumption | exact set_self (by first | assumption | exact set_self (by first | assumption | exact set_self (by assumption) | exact set_ne (by first | assumption | decide | omega) (by assumption)) | exact set_ne (by first | assumption | decide | omega) (by first | assumption | exact set_self (by assumption) | exact set_ne (by first | assumption | decide | omega) (by assumption))) | exact set_ne (by first | assumption | decide | omega) (by first | assumption | exact set_self (by first | assumption | exact set_self (by assumption) | exact set_ne (by first | assumption | decide | omega) (by assumption)) | exact set_ne (by first | assumption | decide | omega) (by first | assumption | exact set_self (by assumption) | exact set_ne (by first | assumption | decide | omega) (by assumption)))) (by omega) _ (by first | assumption | exact set_self (by first | assumption | exact set_self (by first | assumption | exact set_self (by assumption) | exact set_ne (by first | assumption | decide | omega) (by assumption)) | exact set_ne (by first | assumption | decide | omega) (by first | assumption | exact set_self (by assumption) | exact set_ne (by first | assumption | decide | omega) (by assumption))) | exact set_ne (by first | assumption | decide | omega) (by first | assumption | exact set_self (by first | assumption | exact set_self (by assumption) | exact set_ne (by first | assumption | decide | omega) (by assumption)) | exact set_ne (by first | assumption | decide | omega) (by first | assumption | exact set_self (by assumption) | exact set_ne (by first | assumption | decide | omega) (by assumption)))) (by assumption) _ _ (by omega) (by omega)) rfl rfl (Nat.le_of_ble_eq_true rfl) ⟨by show d - 1 + 1 ≤ d; omega, by show 40 * (d - 1 + 1) ≤ 40 * d; omega⟩ ⟨Nat.zero_le _, Nat.zero_le _⟩ ?_
        refine AW.bz (tgt := 72) (pn := 68) rfl (by decide) rfl (fun c65 => ?_) (fun c65 => ?_)
        · refine AW.go 2 (pc' := 74) rfl ?_
          refine AW.getf (pn := 77) rfl rfl flX4_52 (by first | assumption | exact set_self (by first | assumption | exact set_self (by first | assumption | exact set_self (by assumption) | exact set_ne (by first | assumption | decide | omega) (by assumption)) | exact set_ne (by first | assumption | decide | omega) (by first | assumption | exact set_self (by assumption) | exact set_ne (by first | assumption | decide | omega) (by assumption))) | exact set_ne (by first | assumption | decide | omega) (by first | assumption | exact set_self (by first | assumption | exact set_self (by assumption) | exact set_ne (by first | assumption | decide | omega) (by assumption)) | exact set_ne (by first | assumption | decide | omega) (by first | assumption | exact set_self (by assumption) | exact set_ne (by first | assumption | decide | omega) (by assumption)))) rfl ?_
          refine AW.bi (tgt := 99) (pn := 80) rfl (by decide) rfl (by first | exact bI_rng _ | exact ⟨by omega, by omega⟩) (by first | exact bI_rng _ | exact ⟨by omega, by omega⟩) (fun c77 => ?_) (fun c77 => ?_)
          · dsimp only [cmpI] at c77
            refine AW.go 1 (pc' := 100) rfl ?_
            refine AW.ret rfl rfl (Nat.le_refl _) (Nat.le_refl _) ?_
            first
              | (exfalso; omega)
              | (have hk : ksg (sga sg pm) = 1 := by omega
                 have hF := ff_at (sga sg pm) pm 1 hk
                 have hN1 := fn_at1 (sga sg pm) pm 1 hk
                 have hN2 := fn_at2 (sga sg pm) pm 1 hk
                 refine ⟨congrArg some ?_, rf, (set_same hO).symm, fun q => ?_⟩ <;> omega)
              | (have hk : ksg (sga sg pm) = 2 := by omega
                 have hF := ff_at (sga sg pm) pm 2 hk
                 have hN1 := fn_at1 (sga sg pm) pm 2 hk
                 have hN2 := fn_at2 (sga sg pm) pm 2 hk
                 refine ⟨congrArg some ?_, rf, (set_same hO).symm, fun q => ?_⟩ <;> omega)
          · dsimp only [cmpI] at c77
            refine AW.go 1 (pc' := 81) rfl ?_
            refine AW.getf (pn := 84) rfl rfl flX4_16 (by first | assumption | exact set_self (by first | assumption | exact set_self (by first | assumption | exact set_self (by assumption) | exact set_ne (by first | assumption | decide | omega) (by assumption)) | exact set_ne (by first | assumption | decide | omega) (by first | assumption | exact set_self (by assumption) | exact set_ne (by first | assumption | decide | omega) (by assumption))) | exact set_ne (by first | assumption | decide | omega) (by first | assumption | exact set_self (by first | assumption | exact set_self (by assumption) | exact set_ne (by first | assumption | decide | omega) (by assumption)) | exact set_ne (by first | assumption | decide | omega) (by first | assumption | exact set_self (by assumption) | exact set_ne (by first | assumption | decide | omega) (by assumption)))) rfl ?_
            refine AW.go 1 (pc' := 85) rfl ?_
            refine AW.iald (pn := 86) rfl rfl (by first | assumption | exact set_self (by first | assumption | exact set_self (by first | assumption | exact set_self (by assumption) | exact set_ne (by first | assumption | decide | omega) (by assumption)) | exact set_ne (by first | assumption | decide | omega) (by first | assumption | exact set_self (by assumption) | exact set_ne (by first | assumption | decide | omega) (by assumption))) | exact set_ne (by first | assumption | decide | omega) (by first | assumption | exact set_self (by first | assumption | exact set_self (by assumption) | exact set_ne (by first | assumption | decide | omega) (by assumption)) | exact set_ne (by first | assumption | decide | omega) (by first | assumption | exact set_self (by assumption) | exact set_ne (by first | assumption | decide | omega) (by assumption)))) (by decide) (by omega) (by omega) ?_
            refine AW.i2l (pn := 87) rfl rfl (by first | exact bI_rng _ | exact ⟨by omega, by omega⟩) ?_
            refine AW.ldc2 (pn := 90) rfl rfl clX4_56 ?_
            refine AW.ldc2 (pn := 93) rfl rfl clX4_58 ?_
            refine AW.callSF (pn := 96) rfl rfl mlX4_40 (c_X4_in (d - 1) (by omega) _ _ _ _ (by omega) (by omega) (by omega)) rfl rfl (Nat.le_of_ble_eq_true rfl) ⟨by show d - 1 + 1 ≤ d; omega, by show 40 * (d - 1 + 1) ≤ 40 * d; omega⟩ ⟨Nat.zero_le _, Nat.zero_le _⟩ ?_
            refine AW.bnz (tgt := 101) (pn := 99) rfl (by decide) rfl (fun c96 => ?_) (fun c96 => ?_)
            · refine AW.go 1 (pc' := 102) rfl ?_
              refine AW.getf (pn := 105) rfl rfl flX4_16 (by first | assumption | exact set_self (by first | assumption | exact set_self (by first | assumption | exact set_self (by assumption) | exact set_ne (by first | assumption | decide | omega) (by assumption)) | exact set_ne (by first | assumption | decide | omega) (by first | assumption | exact set_self (by assumption) | exact set_ne (by first | assumption | decide | omega) (by assumption))) | exact set_ne (by first | assumption | decide | omega) (by first | assumption | exact set_self (by first | assumption | exact set_self (by assumption) | exact set_ne (by first | assumption | decide | omega) (by assumption)) | exact set_ne (by first | assumption | decide | omega) (by first | assumption | exact set_self (by assumption) | exact set_ne (by first | assumption | decide | omega) (by assumption)))) rfl ?_
              refine AW.go 1 (pc' := 106) rfl ?_
              refine AW.iald (pn := 107) rfl rfl (by first | assumption | exact set_self (by first | assumption | exact set_self (by first | assumption | exact set_self (by assumption) | exact set_ne (by first | assumption | decide | omega) (by assumption)) | exact set_ne (by first | assumption | decide | omega) (by first | assumption | exact set_self (by assumption) | exact set_ne (by first | assumption | decide | omega) (by assumption))) | exact set_ne (by first | assumption | decide | omega) (by first | assumption | exact set_self (by first | assumption | exact set_self (by assumption) | exact set_ne (by first | assumption | decide | omega) (by assumption)) | exact set_ne (by first | assumption | decide | omega) (by first | assumption | exact set_self (by assumption) | exact set_ne (by first | assumption | decide | omega) (by assumption)))) (by decide) (by omega) (by omega) ?_
              refine AW.go 6 (pc' := 116) rfl ?_
              refine AW.bi (tgt := 155) (pn := 119) rfl (by decide) rfl (by first | exact bI_rng _ | exact ⟨by omega, by omega⟩) (by first | exact bI_rng _ | exact ⟨by omega, by omega⟩) (fun c116 => ?_) (fun c116 => ?_)
              · dsimp only [cmpI] at c116
                refine AW.go 6 (pc' := 162) rfl ?_
                refine AW.putf (pn := 165) rfl rfl flX4_68 (by first | assumption | exact set_self (by first | assumption | exact set_self (by first | assumption | exact set_self (by assumption) | exact set_ne (by first | assumption | decide | omega) (by assumption)) | exact set_ne (by first | assumption | decide | omega) (by first | assumption | exact set_self (by assumption) | exact set_ne (by first | assumption | decide | omega) (by assumption))) | exact set_ne (by first | assumption | decide | omega) (by first | assumption | exact set_self (by first | assumption | exact set_self (by assumption) | exact set_ne (by first | assumption | decide | omega) (by assumption)) | exact set_ne (by first | assumption | decide | omega) (by first | assumption | exact set_self (by assumption) | exact set_ne (by first | assumption | decide | omega) (by assumption)))) rfl (by first | trivial | exact bI_01 _ | exact Or.inl rfl | exact Or.inr rfl) ?_
                refine AW.go 2 (pc' := 167) rfl ?_
                refine AW.getf (pn := 170) rfl rfl flX4_52 (by first | assumption | exact set_self (by first | assumption | exact set_self (by first | assumption | exact set_self (by assumption) | exact set_ne (by first | assumption | decide | omega) (by assumption)) | exact set_ne (by first | assumption | decide | omega) (by first | assumption | exact set_self (by assumption) | exact set_ne (by first | assumption | decide | omega) (by assumption))) | exact set_ne (by first | assumption | decide | omega) (by first | assumption | exact set_self (by first | assumption | exact set_self (by assumption) | exact set_ne (by first | assumption | decide | omega) (by assumption)) | exact set_ne (by first | assumption | decide | omega) (by first | assumption | exact set_self (by assumption) | exact set_ne (by first | assumption | decide | omega) (by assumption)))) rfl ?_
                refine AW.bi (tgt := 177) (pn := 173) rfl (by decide) rfl (by first | exact bI_rng _ | exact ⟨by omega, by omega⟩) (by first | exact bI_rng _ | exact ⟨by omega, by omega⟩) (fun c170 => ?_) (fun c170 => ?_)
                · dsimp only [cmpI] at c170
                  refine AW.go 1 (pc' := 179) rfl ?_
                  refine AW.ret rfl rfl (Nat.le_refl _) (Nat.le_refl _) ?_
                  first
                    | (exfalso; omega)
                    | (have hk : ksg (sga sg pm) = 1 := by omega
                       have hF := ff_at (sga sg pm) pm 1 hk
                       have hN1 := fn_at1 (sga sg pm) pm 1 hk
                       have hN2 := fn_at2 (sga sg pm) pm 1 hk
                       refine ⟨congrArg some ?_, _, rfl, fun q => ?_⟩ <;> omega)
                    | (have hk : ksg (sga sg pm) = 2 := by omega
                       have hF := ff_at (sga sg pm) pm 2 hk
                       have hN1 := fn_at1 (sga sg pm) pm 2 hk
                       have hN2 := fn_at2 (sga sg pm) pm 2 hk
                       refine ⟨congrArg some ?_, _, rfl, fun q => ?_⟩ <;> omega)
                · dsimp only [cmpI] at c170
                  refine AW.go 2 (pc' := 179) rfl ?_
                  refine AW.ret rfl rfl (Nat.le_refl _) (Nat.le_refl _) ?_
                  first
                    | (exfalso; omega)
                    | (have hk : ksg (sga sg pm) = 1 := by omega
                       have hF := ff_at (sga sg pm) pm 1 hk
                       have hN1 := fn_at1 (sga sg pm) pm 1 hk
                       have hN2 := fn_at2 (sga sg pm) pm 1 hk
                       refine ⟨congrArg some ?_, _, rfl, fun q => ?_⟩ <;> omega)
                    | (have hk : ksg (sga sg pm) = 2 := by omega
                       have hF := ff_at (sga sg pm) pm 2 hk
                       have hN1 := fn_at1 (sga sg pm) pm 2 hk
                       have hN2 := fn_at2 (sga sg pm) pm 2 hk
                       refine ⟨congrArg some ?_, _, rfl, fun q => ?_⟩ <;> omega)
              · dsimp only [cmpI] at c116
                refine AW.go 3 (pc' := 123) rfl ?_
                refine AW.callVF (pn := 126) rfl rfl mlX4_64 (by first | assumption | exact set_self (by first | assumption | exact set_self (by first | assumption | exact set_self (by assumption) | exact set_ne (by first | assumption | decide | omega) (by assumption)) | exact set_ne (by first | assumption | decide | omega) (by first | assumption | exact set_self (by assumption) | exact set_ne (by first | assumption | decide | omega) (by assumption))) | exact set_ne (by first | assumption | decide | omega) (by first | assumption | exact set_self (by first | assumption | exact set_self (by assumption) | exact set_ne (by first | assumption | decide | omega) (by assumption)) | exact set_ne (by first | assumption | decide | omega) (by first | assumption | exact set_self (by assumption) | exact set_ne (by first | assumption | decide | omega) (by assumption)))) (c_X4_isSign (d - 1) (by omega) _ _ _ _ _ _ (by first | assumption | exact set_self (by first | assumption | exact set_self (by first | assumption | exact set_self (by assumption) | exact set_ne (by first | assumption | decide | omega) (by assumption)) | exact set_ne (by first | assumption | decide | omega) (by first | assumption | exact set_self (by assumption) | exact set_ne (by first | assumption | decide | omega) (by assumption))) | exact set_ne (by first | assumption | decide | omega) (by first | assumption | exact set_self (by first | assumption | exact set_self (by assumption) | exact set_ne (by first | assumption | decide | omega) (by assumption)) | exact set_ne (by first | assumption | decide | omega) (by first | assumption | exact set_self (by assumption) | exact set_ne (by first | assumption | decide | omega) (by assumption)))) (by omega) _ (by first | assumption | exact set_self (by first | assumption | exact set_self (by first | assumption | exact set_self (by assumption) | exact set_ne (by first | assumption | decide | omega) (by assumption)) | exact set_ne (by first | assumption | decide | omega) (by first | assumption | exact set_self (by assumption) | exact set_ne (by first | assumption | decide | omega) (by assumption))) | exact set_ne (by first | assumption | decide | omega) (by first | assumption | exact set_self (by first | assumption | exact set_self (by assumption) | exact set_ne (by first | assumption | decide | omega) (by assumption)) | exact set_ne (by first | assumption | decide | omega) (by first | assumption | exact set_self (by assumption) | exact set_ne (by first | assumption | decide | omega) (by assumption)))) (by assumption) _ _ (by omega) (by omega)) rfl rfl (Nat.le_of_ble_eq_true rfl) ⟨by show d - 1 + 1 ≤ d; omega, by show 40 * (d - 1 + 1) ≤ 40 * d; omega⟩ ⟨Nat.zero_le _, Nat.zero_le _⟩ ?_
                refine AW.bnz (tgt := 139) (pn := 129) rfl (by decide) rfl (fun c126 => ?_) (fun c126 => ?_)
                · refine AW.go 2 (pc' := 142) rfl ?_
                  refine AW.getf (pn := 145) rfl rfl flX4_16 (by first | assumption | exact set_self (by first | assumption | exact set_self (by first | assumption | exact set_self (by assumption) | exact set_ne (by first | assumption | decide | omega) (by assumption)) | exact set_ne (by first | assumption | decide | omega) (by first | assumption | exact set_self (by assumption) | exact set_ne (by first | assumption | decide | omega) (by assumption))) | exact set_ne (by first | assumption | decide | omega) (by first | assumption | exact set_self (by first | assumption | exact set_self (by assumption) | exact set_ne (by first | assumption | decide | omega) (by assumption)) | exact set_ne (by first | assumption | decide | omega) (by first | assumption | exact set_self (by assumption) | exact set_ne (by first | assumption | decide | omega) (by assumption)))) rfl ?_
                  refine AW.go 1 (pc' := 146) rfl ?_
                  refine AW.iald (pn := 147) rfl rfl (by first | assumption | exact set_self (by first | assumption | exact set_self (by first | assumption | exact set_self (by assumption) | exact set_ne (by first | assumption | decide | omega) (by assumption)) | exact set_ne (by first | assumption | decide | omega) (by first | assumption | exact set_self (by assumption) | exact set_ne (by first | assumption | decide | omega) (by assumption))) | exact set_ne (by first | assumption | decide | omega) (by first | assumption | exact set_self (by first | assumption | exact set_self (by assumption) | exact set_ne (by first | assumption | decide | omega) (by assumption)) | exact set_ne (by first | assumption | decide | omega) (by first | assumption | exact set_self (by assumption) | exact set_ne (by first | assumption | decide | omega) (by assumption)))) (by decide) (by omega) (by omega) ?_
                  refine AW.go 11 (pc' := 162) rfl ?_
                  refine AW.putf (pn := 165) rfl rfl flX4_68 (by first | assumption | exact set_self (by first | assumption | exact set_self (by first | assumption | exact set_self (by assumption) | exact set_ne (by first | assumption | decide | omega) (by assumption)) | exact set_ne (by first | assumption | decide | omega) (by first | assumption | exact set_self (by assumption) | exact set_ne (by first | assumption | decide | omega) (by assumption))) | exact set_ne (by first | assumption | decide | omega) (by first | assumption | exact set_self (by first | assumption | exact set_self (by assumption) | exact set_ne (by first | assumption | decide | omega) (by assumption)) | exact set_ne (by first | assumption | decide | omega) (by first | assumption | exact set_self (by assumption) | exact set_ne (by first | assumption | decide | omega) (by assumption)))) rfl (by first | trivial | exact bI_01 _ | exact Or.inl rfl | exact Or.inr rfl) ?_
                  refine AW.go 2 (pc' := 167) rfl ?_
                  refine AW.getf (pn := 170) rfl rfl flX4_52 (by first | assumption | exact set_self (by first | assumption | exact set_self (by first | assumption | exact set_self (by assumption) | exact set_ne (by first | assumption | decide | omega) (by assumption)) | exact set_ne (by first | assumption | decide | omega) (by first | assumption | exact set_self (by assumption) | exact set_ne (by first | assumption | decide | omega) (by assumption))) | exact set_ne (by first | assumption | decide | omega) (by first | assumption | exact set_self (by first | assumption | exact set_self (by assumption) | exact set_ne (by first | assumption | decide | omega) (by assumption)) | exact set_ne (by first | assumption | decide | omega) (by first | assumption | exact set_self (by assumption) | exact set_ne (by first | assumption | decide | omega) (by assumption)))) rfl ?_
                  refine AW.bi (tgt := 177) (pn := 173) rfl (by decide) rfl (by first | exact bI_rng _ | exact ⟨by omega, by omega⟩) (by first | exact bI_rng _ | exact ⟨by omega, by omega⟩) (fun c170 => ?_) (fun c170 => ?_)
                  · dsimp only [cmpI] at c170
                    refine AW.go 1 (pc' := 179) rfl ?_
                    refine AW.ret rfl rfl (Nat.le_refl _) (Nat.le_refl _) ?_
                    first
                      | (exfalso; omega)
                      | (have hk : ksg (sga sg pm) = 1 := by omega
                         have hF := ff_at (sga sg pm) pm 1 hk
                         have hN1 := fn_at1 (sga sg pm) pm 1 hk
                         have hN2 := fn_at2 (sga sg pm) pm 1 hk
                         refine ⟨congrArg some ?_, _, rfl, fun q => ?_⟩ <;> omega)
                      | (have hk : ksg (sga sg pm) = 2 := by omega
                         have hF := ff_at (sga sg pm) pm 2 hk
                         have hN1 := fn_at1 (sga sg pm) pm 2 hk
                         have hN2 := fn_at2 (sga sg pm) pm 2 hk
                         refine ⟨congrArg some ?_, _, rfl, fun q => ?_⟩ <;> omega)
                  · dsimp only [cmpI] at c170
                    refine AW.go 2 (pc' := 179) rfl ?_
                    refine AW.ret rfl rfl (Nat.le_refl _) (Nat.le_refl _) ?_
                    first
                      | (exfalso; omega)
                      | (have hk : ksg (sga sg pm) = 1 := by omega
                         have hF := ff_at (sga sg pm) pm 1 hk
                         have hN1 := fn_at1 (sga sg pm) pm 1 hk
                         have hN2 := fn_at2 (sga sg pm) pm 1 hk
                         refine ⟨congrArg some ?_, _, rfl, fun q => ?_⟩ <;> omega)
                      | (have hk : ksg (sga sg pm) = 2 := by omega
                         have hF := ff_at (sga sg pm) pm 2 hk
                         have hN1 := fn_at1 (sga sg pm) pm 2 hk
                         have hN2 := fn_at2 (sga sg pm) pm 2 hk
                         refine ⟨congrArg some ?_, _, rfl, fun q => ?_⟩ <;> omega)
                · refine AW.go 3 (pc' := 133) rfl ?_
                  refine AW.callVF (pn := 136) rfl rfl mlX4_64 (by first | assumption | exact set_self (by first | assumption | exact set_self (by first | assumption | exact set_self (by assumption) | exact set_ne (by first | assumption | decide | omega) (by assumption)) | exact set_ne (by first | assumption | decide | omega) (by first | assumption | exact set_self (by assumption) | exact set_ne (by first | assumption | decide | omega) (by assumption))) | exact set_ne (by first | assumption | decide | omega) (by first | assumption | exact set_self (by first | assumption | exact set_self (by assumption) | exact set_ne (by first | assumption | decide | omega) (by assumption)) | exact set_ne (by first | assumption | decide | omega) (by first | assumption | exact set_self (by assumption) | exact set_ne (by first | assumption | decide | omega) (by assumption)))) (c_X4_isSign (d - 1) (by omega) _ _ _ _ _ _ (by first | assumption | exact set_self (by first | assumption | exact set_self (by first | assumption | exact set_self (by assumption) | exact set_ne (by first | assumption | decide | omega) (by assumption)) | exact set_ne (by first | assumption | decide | omega) (by first | assumption | exact set_self (by assumption) | exact set_ne (by first | assumption | decide | omega) (by assumption))) | exact set_ne (by first | assumption | decide | omega) (by first | assumption | exact set_self (by first | assumption | exact set_self (by assumption) | exact set_ne (by first | assumption | decide | omega) (by assumption)) | exact set_ne (by first | assumption | decide | omega) (by first | assumption | exact set_self (by assumption) | exact set_ne (by first | assumption | decide | omega) (by assumption)))) (by omega) _ (by first | assumption | exact set_self (by first | assumption | exact set_self (by first | assumption | exact set_self (by assumption) | exact set_ne (by first | assumption | decide | omega) (by assumption)) | exact set_ne (by first | assumption | decide | omega) (by first | assumption | exact set_self (by assumption) | exact set_ne (by first | assumption | decide | omega) (by assumption))) | exact set_ne (by first | assumption | decide | omega) (by first | assumption | exact set_self (by first | assumption | exact set_self (by assumption) | exact set_ne (by first | assumption | decide | omega) (by assumption)) | exact set_ne (by first | assumption | decide | omega) (by first | assumption | exact set_self (by assumption) | exact set_ne (by first | assumption | decide | omega) (by assumption)))) (by assumption) _ _ (by omega) (by omega)) rfl rfl (Nat.le_of_ble_eq_true rfl) ⟨by show d - 1 + 1 ≤ d; omega, by show 40 * (d - 1 + 1) ≤ 40 * d; omega⟩ ⟨Nat.zero_le _, Nat.zero_le _⟩ ?_
                  refine AW.bz (tgt := 155) (pn := 139) rfl (by decide) rfl (fun c136 => ?_) (fun c136 => ?_)
                  · refine AW.go 6 (pc' := 162) rfl ?_
                    refine AW.putf (pn := 165) rfl rfl flX4_68 (by first | assumption | exact set_self (by first | assumption | exact set_self (by first | assumption | exact set_self (by assumption) | exact set_ne (by first | assumption | decide | omega) (by assumption)) | exact set_ne (by first | assumption | decide | omega) (by first | assumption | exact set_self (by assumption) | exact set_ne (by first | assumption | decide | omega) (by assumption))) | exact set_ne (by first | assumption | decide | omega) (by first | assumption | exact set_self (by first | assumption | exact set_self (by assumption) | exact set_ne (by first | assumption | decide | omega) (by assumption)) | exact set_ne (by first | assumption | decide | omega) (by first | assumption | exact set_self (by assumption) | exact set_ne (by first | assumption | decide | omega) (by assumption)))) rfl (by first | trivial | exact bI_01 _ | exact Or.inl rfl | exact Or.inr rfl) ?_
                    refine AW.go 2 (pc' := 167) rfl ?_
                    refine AW.getf (pn := 170) rfl rfl flX4_52 (by first | assumption | exact set_self (by first | assumption | exact set_self (by first | assumption | exact set_self (by assumption) | exact set_ne (by first | assumption | decide | omega) (by assumption)) | exact set_ne (by first | assumption | decide | omega) (by first | assumption | exact set_self (by assumption) | exact set_ne (by first | assumption | decide | omega) (by assumption))) | exact set_ne (by first | assumption | decide | omega) (by first | assumption | exact set_self (by first | assumption | exact set_self (by assumption) | exact set_ne (by first | assumption | decide | omega) (by assumption)) | exact set_ne (by first | assumption | decide | omega) (by first | assumption | exact set_self (by assumption) | exact set_ne (by first | assumption | decide | omega) (by assumption)))) rfl ?_
                    refine AW.bi (tgt := 177) (pn := 173) rfl (by decide) rfl (by first | exact bI_rng _ | exact ⟨by omega, by omega⟩) (by first | exact bI_rng _ | exact ⟨by omega, by omega⟩) (fun c170 => ?_) (fun c170 => ?_)
                    · dsimp only [cmpI] at c170
                      refine AW.go 1 (pc' := 179) rfl ?_
                      refine AW.ret rfl rfl (Nat.le_refl _) (Nat.le_refl _) ?_
                      first
                        | (exfalso; omega)
                        | (have hk : ksg (sga sg pm) = 1 := by omega
                           have hF := ff_at (sga sg pm) pm 1 hk
                           have hN1 := fn_at1 (sga sg pm) pm 1 hk
                           have hN2 := fn_at2 (sga sg pm) pm 1 hk
                           refine ⟨congrArg some ?_, _, rfl, fun q => ?_⟩ <;> omega)
                        | (have hk : ksg (sga sg pm) = 2 := by omega
                           have hF := ff_at (sga sg pm) pm 2 hk
                           have hN1 := fn_at1 (sga sg pm) pm 2 hk
                           have hN2 := fn_at2 (sga sg pm) pm 2 hk
                           refine ⟨congrArg some ?_, _, rfl, fun q => ?_⟩ <;> omega)
                    · dsimp only [cmpI] at c170
                      refine AW.go 2 (pc' := 179) rfl ?_
                      refine AW.ret rfl rfl (Nat.le_refl _) (Nat.le_refl _) ?_
                      first
                        | (exfalso; omega)
                        | (have hk : ksg (sga sg pm) = 1 := by omega
                           have hF := ff_at (sga sg pm) pm 1 hk
                           have hN1 := fn_at1 (sga sg pm) pm 1 hk
                           have hN2 := fn_at2 (sga sg pm) pm 1 hk
                           refine ⟨congrArg some ?_, _, rfl, fun q => ?_⟩ <;> omega)
                        | (have hk : ksg (sga sg pm) = 2 := by omega
                           have hF := ff_at (sga sg pm) pm 2 hk
                           have hN1 := fn_at1 (sga sg pm) pm 2 hk
                           have hN2 := fn_at2 (sga sg pm) pm 2 hk
                           refine ⟨congrArg some ?_, _, rfl, fun q => ?_⟩ <;> omega)
                  · refine AW.go 2 (pc' := 142) rfl ?_
                    refine AW.getf (pn := 145) rfl rfl flX4_16 (by first | assumption | exact set_self (by first | assumption | exact set_self (by first | assumption | exact set_self (by assumption) | exact set_ne (by first | assumption | decide | omega) (by assumption)) | exact set_ne (by first | assumption | decide | omega) (by first | assumption | exact set_self (by assumption) | exact set_ne (by first | assumption | decide | omega) (by assumption))) | exact set_ne (by first | assumption | decide | omega) (by first | assumption | exact set_self (by first | assumption | exact set_self (by assumption) | exact set_ne (by first | assumption | decide | omega) (by assumption)) | exact set_ne (by first | assumption | decide | omega) (by first | assumption | exact set_self (by assumption) | exact set_ne (by first | assumption | decide | omega) (by assumption)))) rfl ?_
                    refine AW.go 1 (pc' := 146) rfl ?_
                    refine AW.iald (pn := 147) rfl rfl (by first | assumption | exact set_self (by first | assumption | exact set_self (by first | assumption | exact set_self (by assumption) | exact set_ne (by first | assumption | decide | omega) (by assumption)) | exact set_ne (by first | assumption | decide | omega) (by first | assumption | exact set_self (by assumption) | exact set_ne (by first | assumption | decide | omega) (by assumption))) | exact set_ne (by first | assumption | decide | omega) (by first | assumption | exact set_self (by first | assumption | exact set_self (by assumption) | exact set_ne (by first | assumption | decide | omega) (by assumption)) | exact set_ne (by first | assumption | decide | omega) (by first | assumption | exact set_self (by assumption) | exact set_ne (by first | assumption | decide | omega) (by assumption)))) (by decide) (by omega) (by omega) ?_
                    refine AW.go 11 (pc' := 162) rfl ?_
                    refine AW.putf (pn := 165) rfl rfl flX4_68 (by first | assumption | exact set_self (by first | assumption | exact set_self (by first | assumption | exact set_self (by assumption) | exact set_ne (by first | assumption | decide | omega) (by assumption)) | exact set_ne (by first | assumption | decide | omega) (by first | assumption | exact set_self (by assumption) | exact set_ne (by first | assumption | decide | omega) (by assumption))) | exact set_ne (by first | assumption | decide | omega) (by first | assumption | exact set_self (by first | assumption | exact set_self (by assumption) | exact set_ne (by first | assumption | decide | omega) (by assumption)) | exact set_ne (by first | assumption | decide | omega) (by first | assumption | exact set_self (by assumption) | exact set_ne (by first | assumption | decide | omega) (by assumption)))) rfl (by first | trivial | exact bI_01 _ | exact Or.inl rfl | exact Or.inr rfl) ?_
                    refine AW.go 2 (pc' := 167) rfl ?_
                    refine AW.getf (pn := 170) rfl rfl flX4_52 (by first | assumption | exact set_self (by first | assumption | exact set_self (by first | assumption | exact set_self (by assumption) | exact set_ne (by first | assumption | decide | omega) (by assumption)) | exact set_ne (by first | assumption | decide | omega) (by first | assumption | exact set_self (by assumption) | exact set_ne (by first | assumption | decide | omega) (by assumption))) | exact set_ne (by first | assumption | decide | omega) (by first | assumption | exact set_self (by first | assumption | exact set_self (by assumption) | exact set_ne (by first | assumption | decide | omega) (by assumption)) | exact set_ne (by first | assumption | decide | omega) (by first | assumption | exact set_self (by assumption) | exact set_ne (by first | assumption | decide | omega) (by assumption)))) rfl ?_
                    refine AW.bi (tgt := 177) (pn := 173) rfl (by decide) rfl (by first | exact bI_rng _ | exact ⟨by omega, by omega⟩) (by first | exact bI_rng _ | exact ⟨by omega, by omega⟩) (fun c170 => ?_) (fun c170 => ?_)
                    · dsimp only [cmpI] at c170
                      refine AW.go 1 (pc' := 179) rfl ?_
                      refine AW.ret rfl rfl (Nat.le_refl _) (Nat.le_refl _) ?_
                      first
                        | (exfalso; omega)
                        | (have hk : ksg (sga sg pm) = 1 := by omega
                           have hF := ff_at (sga sg pm) pm 1 hk
                           have hN1 := fn_at1 (sga sg pm) pm 1 hk
                           have hN2 := fn_at2 (sga sg pm) pm 1 hk
                           refine ⟨congrArg some ?_, _, rfl, fun q => ?_⟩ <;> omega)
                        | (have hk : ksg (sga sg pm) = 2 := by omega
                           have hF := ff_at (sga sg pm) pm 2 hk
                           have hN1 := fn_at1 (sga sg pm) pm 2 hk
                           have hN2 := fn_at2 (sga sg pm) pm 2 hk
                           refine ⟨congrArg some ?_, _, rfl, fun q => ?_⟩ <;> omega)
                    · dsimp only [cmpI] at c170
                      refine AW.go 2 (pc' := 179) rfl ?_
                      refine AW.ret rfl rfl (Nat.le_refl _) (Nat.le_refl _) ?_
                      first
                        | (exfalso; omega)
                        | (have hk : ksg (sga sg pm) = 1 := by omega
                           have hF := ff_at (sga sg pm) pm 1 hk
                           have hN1 := fn_at1 (sga sg pm) pm 1 hk
                           have hN2 := fn_at2 (sga sg pm) pm 1 hk
                           refine ⟨congrArg some ?_, _, rfl, fun q => ?_⟩ <;> omega)
                        | (have hk : ksg (sga sg pm) = 2 := by omega
                           have hF := ff_at (sga sg pm) pm 2 hk
                           have hN1 := fn_at1 (sga sg pm) pm 2 hk
                           have hN2 := fn_at2 (sga sg pm) pm 2 hk
                           refine ⟨congrArg some ?_, _, rfl, fun q => ?_⟩ <;> omega)
            · refine AW.go 1 (pc' := 100) rfl ?_
              refine AW.ret rfl rfl (Nat.le_refl _) (Nat.le_refl _) ?_
              first
                | (exfalso; omega)
                | (have hk : ksg (sga sg pm) = 1 := by omega
                   have hF := ff_at (sga sg pm) pm 1 hk
                   have hN1 := fn_at1 (sga sg pm) pm 1 hk
                   have hN2 := fn_at2 (sga sg pm) pm 1 hk
                   refine ⟨congrArg some ?_, rf, (set_same hO).symm, fun q => ?_⟩ <;> omega)
                | (have hk : ksg (sga sg pm) = 2 := by omega
                   have hF := ff_at (sga sg pm) pm 2 hk
                   have hN1 := fn_at1 (sga sg pm) pm 2 hk
                   have hN2 := fn_at2 (sga sg pm) pm 2 hk
                   refine ⟨congrArg some ?_, rf, (set_same hO).symm, fun q => ?_⟩ <;> omega)
        · refine AW.go 6 (pc' := 74) rfl ?_
          refine AW.getf (pn := 77) rfl rfl flX4_52 (by first | assumption | exact set_self (by first | assumption | exact set_self (by first | assumption | exact set_self (by assumption) | exact set_ne (by first | assumption | decide | omega) (by assumption)) | exact set_ne (by first | assumption | decide | omega) (by first | assumption | exact set_self (by assumption) | exact set_ne (by first | assumption | decide | omega) (by assumption))) | exact set_ne (by first | assumption | decide | omega) (by first | assumption | exact set_self (by first | assumption | exact set_self (by assumption) | exact set_ne (by first | assumption | decide | omega) (by assumption)) | exact set_ne (by first | assumption | decide | omega) (by first | assumption | exact set_self (by assumption) | exact set_ne (by first | assumption | decide | omega) (by assumption)))) rfl ?_
          refine AW.bi (tgt := 99) (pn := 80) rfl (by decide) rfl (by first | exact bI_rng _ | exact ⟨by omega, by omega⟩) (by first | exact bI_rng _ | exact ⟨by omega, by omega⟩) (fun c77 => ?_) (fun c77 => ?_)
          · dsimp only [cmpI] at c77
            refine AW.go 1 (pc' := 100) rfl ?_
            refine AW.ret rfl rfl (Nat.le_refl _) (Nat.le_refl _) ?_
            first
              | (exfalso; omega)
              | (have hk : ksg (sga sg pm) = 1 := by omega
                 have hF := ff_at (sga sg pm) pm 1 hk
                 have hN1 := fn_at1 (sga sg pm) pm 1 hk
                 have hN2 := fn_at2 (sga sg pm) pm 1 hk
                 refine ⟨congrArg some ?_, rf, (set_same hO).symm, fun q => ?_⟩ <;> omega)
              | (have hk : ksg (sga sg pm) = 2 := by omega
                 have hF := ff_at (sga sg pm) pm 2 hk
                 have hN1 := fn_at1 (sga sg pm) pm 2 hk
                 have hN2 := fn_at2 (sga sg pm) pm 2 hk
                 refine ⟨congrArg some ?_, rf, (set_same hO).symm, fun q => ?_⟩ <;> omega)
          · dsimp only [cmpI] at c77
            refine AW.go 1 (pc' := 81) rfl ?_
            refine AW.getf (pn := 84) rfl rfl flX4_16 (by first | assumption | exact set_self (by first | assumption | exact set_self (by first | assumption | exact set_self (by assumption) | exact set_ne (by first | assumption | decide | omega) (by assumption)) | exact set_ne (by first | assumption | decide | omega) (by first | assumption | exact set_self (by assumption) | exact set_ne (by first | assumption | decide | omega) (by assumption))) | exact set_ne (by first | assumption | decide | omega) (by first | assumption | exact set_self (by first | assumption | exact set_self (by assumption) | exact set_ne (by first | assumption | decide | omega) (by assumption)) | exact set_ne (by first | assumption | decide | omega) (by first | assumption | exact set_self (by assumption) | exact set_ne (by first | assumption | decide | omega) (by assumption)))) rfl ?_
            refine AW.go 1 (pc' := 85) rfl ?_
            refine AW.iald (pn := 86) rfl rfl (by first | assumption | exact set_self (by first | assumption | exact set_self (by first | assumption | exact set_self (by assumption) | exact set_ne (by first | assumption | decide | omega) (by assumption)) | exact set_ne (by first | assumption | decide | omega) (by first | assumption | exact set_self (by assumption) | exact set_ne (by first | assumption | decide | omega) (by assumption))) | exact set_ne (by first | assumption | decide | omega) (by first | assumption | exact set_self (by first | assumption | exact set_self (by assumption) | exact set_ne (by first | assumption | decide | omega) (by assumption)) | exact set_ne (by first | assumption | decide | omega) (by first | assumption | exact set_self (by assumption) | exact set_ne (by first | assumption | decide | omega) (by assumption)))) (by decide) (by omega) (by omega) ?_
            refine AW.i2l (pn := 87) rfl rfl (by first | exact bI_rng _ | exact ⟨by omega, by omega⟩) ?_
            refine AW.ldc2 (pn := 90) rfl rfl clX4_56 ?_
            refine AW.ldc2 (pn := 93) rfl rfl clX4_58 ?_
            refine AW.callSF (pn := 96) rfl rfl mlX4_40 (c_X4_in (d - 1) (by omega) _ _ _ _ (by omega) (by omega) (by omega)) rfl rfl (Nat.le_of_ble_eq_true rfl) ⟨by show d - 1 + 1 ≤ d; omega, by show 40 * (d - 1 + 1) ≤ 40 * d; omega⟩ ⟨Nat.zero_le _, Nat.zero_le _⟩ ?_
            refine AW.bnz (tgt := 101) (pn := 99) rfl (by decide) rfl (fun c96 => ?_) (fun c96 => ?_)
            · refine AW.go 1 (pc' := 102) rfl ?_
              refine AW.getf (pn := 105) rfl rfl flX4_16 (by first | assumption | exact set_self (by first | assumption | exact set_self (by first | assumption | exact set_self (by assumption) | exact set_ne (by first | assumption | decide | omega) (by assumption)) | exact set_ne (by first | assumption | decide | omega) (by first | assumption | exact set_self (by assumption) | exact set_ne (by first | assumption | decide | omega) (by assumption))) | exact set_ne (by first | assumption | decide | omega) (by first | assumption | exact set_self (by first | assumption | exact set_self (by assumption) | exact set_ne (by first | assumption | decide | omega) (by assumption)) | exact set_ne (by first | assumption | decide | omega) (by first | assumption | exact set_self (by assumption) | exact set_ne (by first | assumption | decide | omega) (by assumption)))) rfl ?_
              refine AW.go 1 (pc' := 106) rfl ?_
              refine AW.iald (pn := 107) rfl rfl (by first | assumption | exact set_self (by first | assumption | exact set_self (by first | assumption | exact set_self (by assumption) | exact set_ne (by first | assumption | decide | omega) (by assumption)) | exact set_ne (by first | assumption | decide | omega) (by first | assumption | exact set_self (by assumption) | exact set_ne (by first | assumption | decide | omega) (by assumption))) | exact set_ne (by first | assumption | decide | omega) (by first | assumption | exact set_self (by first | assumption | exact set_self (by assumption) | exact set_ne (by first | assumption | decide | omega) (by assumption)) | exact set_ne (by first | assumption | decide | omega) (by first | assumption | exact set_self (by assumption) | exact set_ne (by first | assumption | decide | omega) (by assumption)))) (by decide) (by omega) (by omega) ?_
              refine AW.go 6 (pc' := 116) rfl ?_
              refine AW.bi (tgt := 155) (pn := 119) rfl (by decide) rfl (by first | exact bI_rng _ | exact ⟨by omega, by omega⟩) (by first | exact bI_rng _ | exact ⟨by omega, by omega⟩) (fun c116 => ?_) (fun c116 => ?_)
              · dsimp only [cmpI] at c116
                refine AW.go 6 (pc' := 162) rfl ?_
                refine AW.putf (pn := 165) rfl rfl flX4_68 (by first | assumption | exact set_self (by first | assumption | exact set_self (by first | assumption | exact set_self (by assumption) | exact set_ne (by first | assumption | decide | omega) (by assumption)) | exact set_ne (by first | assumption | decide | omega) (by first | assumption | exact set_self (by assumption) | exact set_ne (by first | assumption | decide | omega) (by assumption))) | exact set_ne (by first | assumption | decide | omega) (by first | assumption | exact set_self (by first | assumption | exact set_self (by assumption) | exact set_ne (by first | assumption | decide | omega) (by assumption)) | exact set_ne (by first | assumption | decide | omega) (by first | assumption | exact set_self (by assumption) | exact set_ne (by first | assumption | decide | omega) (by assumption)))) rfl (by first | trivial | exact bI_01 _ | exact Or.inl rfl | exact Or.inr rfl) ?_
                refine AW.go 2 (pc' := 167) rfl ?_
                refine AW.getf (pn := 170) rfl rfl flX4_52 (by first | assumption | exact set_self (by first | assumption | exact set_self (by first | assumption | exact set_self (by assumption) | exact set_ne (by first | assumption | decide | omega) (by assumption)) | exact set_ne (by first | assumption | decide | omega) (by first | assumption | exact set_self (by assumption) | exact set_ne (by first | assumption | decide | omega) (by assumption))) | exact set_ne (by first | assumption | decide | omega) (by first | assumption | exact set_self (by first | assumption | exact set_self (by assumption) | exact set_ne (by first | assumption | decide | omega) (by assumption)) | exact set_ne (by first | assumption | decide | omega) (by first | assumption | exact set_self (by assumption) | exact set_ne (by first | assumption | decide | omega) (by assumption)))) rfl ?_
                refine AW.bi (tgt := 177) (pn := 173) rfl (by decide) rfl (by first | exact bI_rng _ | exact ⟨by omega, by omega⟩) (by first | exact bI_rng _ | exact ⟨by omega, by omega⟩) (fun c170 => ?_) (fun c170 => ?_)
                · dsimp only [cmpI] at c170
                  refine AW.go 1 (pc' := 179) rfl ?_
                  refine AW.ret rfl rfl (Nat.le_refl _) (Nat.le_refl _) ?_
                  first
                    | (exfalso; omega)
                    | (have hk : ksg (sga sg pm) = 1 := by omega
                       have hF := ff_at (sga sg pm) pm 1 hk
                       have hN1 := fn_at1 (sga sg pm) pm 1 hk
                       have hN2 := fn_at2 (sga sg pm) pm 1 hk
                       refine ⟨congrArg some ?_, _, rfl, fun q => ?_⟩ <;> omega)
                    | (have hk : ksg (sga sg pm) = 2 := by omega
                       have hF := ff_at (sga sg pm) pm 2 hk
                       have hN1 := fn_at1 (sga sg pm) pm 2 hk
                       have hN2 := fn_at2 (sga sg pm) pm 2 hk
                       refine ⟨congrArg some ?_, _, rfl, fun q => ?_⟩ <;> omega)
                · dsimp only [cmpI] at c170
                  refine AW.go 2 (pc' := 179) rfl ?_
                  refine AW.ret rfl rfl (Nat.le_refl _) (Nat.le_refl _) ?_
                  first
                    | (exfalso; omega)
                    | (have hk : ksg (sga sg pm) = 1 := by omega
                       have hF := ff_at (sga sg pm) pm 1 hk
                       have hN1 := fn_at1 (sga sg pm) pm 1 hk
                       have hN2 := fn_at2 (sga sg pm) pm 1 hk
                       refine ⟨congrArg some ?_, _, rfl, fun q => ?_⟩ <;> omega)
                    | (have hk : ksg (sga sg pm) = 2 := by omega
                       have hF := ff_at (sga sg pm) pm 2 hk
                       have hN1 := fn_at1 (sga sg pm) pm 2 hk
                       have hN2 := fn_at2 (sga sg pm) pm 2 hk
                       refine ⟨congrArg some ?_, _, rfl, fun q => ?_⟩ <;> omega)
              · dsimp only [cmpI] at c116
                refine AW.go 3 (pc' := 123) rfl ?_
                refine AW.callVF (pn := 126) rfl rfl mlX4_64 (by first | assumption | exact set_self (by first | assumption | exact set_self (by first | assumption | exact set_self (by assumption) | exact set_ne (by first | assumption | decide | omega) (by assumption)) | exact set_ne (by first | assumption | decide | omega) (by first | assumption | exact set_self (by assumption) | exact set_ne (by first | assumption | decide | omega) (by assumption))) | exact set_ne (by first | assumption | decide | omega) (by first | assumption | exact set_self (by first | assumption | exact set_self (by assumption) | exact set_ne (by first | assumption | decide | omega) (by assumption)) | exact set_ne (by first | assumption | decide | omega) (by first | assumption | exact set_self (by assumption) | exact set_ne (by first | assumption | decide | omega) (by assumption)))) (c_X4_isSign (d - 1) (by omega) _ _ _ _ _ _ (by first | assumption | exact set_self (by first | assumption | exact set_self (by first | assumption | exact set_self (by assumption) | exact set_ne (by first | assumption | decide | omega) (by assumption)) | exact set_ne (by first | assumption | decide | omega) (by first | assumption | exact set_self (by assumption) | exact set_ne (by first | assumption | decide | omega) (by assumption))) | exact set_ne (by first | assumption | decide | omega) (by first | assumption | exact set_self (by first | assumption | exact set_self (by assumption) | exact set_ne (by first | assumption | decide | omega) (by assumption)) | exact set_ne (by first | assumption | decide | omega) (by first | assumption | exact set_self (by assumption) | exact set_ne (by first | assumption | decide | omega) (by assumption)))) (by omega) _ (by first | assumption | exact set_self (by first | assumption | exact set_self (by first | assumption | exact set_self (by assumption) | exact set_ne (by first | assumption | decide | omega) (by assumption)) | exact set_ne (by first | assumption | decide | omega) (by first | assumption | exact set_self (by assumption) | exact set_ne (by first | assumption | decide | omega) (by assumption))) | exact set_ne (by first | assumption | decide | omega) (by first | assumption | exact set_self (by first | assumption | exact set_self (by assumption) | exact set_ne (by first | assumption | decide | omega) (by assumption)) | exact set_ne (by first | assumption | decide | omega) (by first | assumption | exact set_self (by assumption) | exact set_ne (by first | assumption | decide | omega) (by assumption)))) (by assumption) _ _ (by omega) (by omega)) rfl rfl (Nat.le_of_ble_eq_true rfl) ⟨by show d - 1 + 1 ≤ d; omega, by show 40 * (d - 1 + 1) ≤ 40 * d; omega⟩ ⟨Nat.zero_le _, Nat.zero_le _⟩ ?_
                refine AW.bnz (tgt := 139) (pn := 129) rfl (by decide) rfl (fun c126 => ?_) (fun c126 => ?_)
                · refine AW.go 2 (pc' := 142) rfl ?_
                  refine AW.getf (pn := 145) rfl rfl flX4_16 (by first | assumption | exact set_self (by first | assumption | exact set_self (by first | assumption | exact set_self (by assumption) | exact set_ne (by first | assumption | decide | omega) (by assumption)) | exact set_ne (by first | assumption | decide | omega) (by first | assumption | exact set_self (by assumption) | exact set_ne (by first | assumption | decide | omega) (by assumption))) | exact set_ne (by first | assumption | decide | omega) (by first | assumption | exact set_self (by first | assumption | exact set_self (by assumption) | exact set_ne (by first | assumption | decide | omega) (by assumption)) | exact set_ne (by first | assumption | decide | omega) (by first | assumption | exact set_self (by assumption) | exact set_ne (by first | assumption | decide | omega) (by assumption)))) rfl ?_
                  refine AW.go 1 (pc' := 146) rfl ?_
                  refine AW.iald (pn := 147) rfl rfl (by first | assumption | exact set_self (by first | assumption | exact set_self (by first | assumption | exact set_self (by assumption) | exact set_ne (by first | assumption | decide | omega) (by assumption)) | exact set_ne (by first | assumption | decide | omega) (by first | assumption | exact set_self (by assumption) | exact set_ne (by first | assumption | decide | omega) (by assumption))) | exact set_ne (by first | assumption | decide | omega) (by first | assumption | exact set_self (by first | assumption | exact set_self (by assumption) | exact set_ne (by first | assumption | decide | omega) (by assumption)) | exact set_ne (by first | assumption | decide | omega) (by first | assumption | exact set_self (by assumption) | exact set_ne (by first | assumption | decide | omega) (by assumption)))) (by decide) (by omega) (by omega) ?_
                  refine AW.go 11 (pc' := 162) rfl ?_
                  refine AW.putf (pn := 165) rfl rfl flX4_68 (by first | assumption | exact set_self (by first | assumption | exact set_self (by first | assumption | exact set_self (by assumption) | exact set_ne (by first | assumption | decide | omega) (by assumption)) | exact set_ne (by first | assumption | decide | omega) (by first | assumption | exact set_self (by assumption) | exact set_ne (by first | assumption | decide | omega) (by assumption))) | exact set_ne (by first | assumption | decide | omega) (by first | assumption | exact set_self (by first | assumption | exact set_self (by assumption) | exact set_ne (by first | assumption | decide | omega) (by assumption)) | exact set_ne (by first | assumption | decide | omega) (by first | assumption | exact set_self (by assumption) | exact set_ne (by first | assumption | decide | omega) (by assumption)))) rfl (by first | trivial | exact bI_01 _ | exact Or.inl rfl | exact Or.inr rfl) ?_
                  refine AW.go 2 (pc' := 167) rfl ?_
                  refine AW.getf (pn := 170) rfl rfl flX4_52 (by first | assumption | exact set_self (by first | assumption | exact set_self (by first | assumption | exact set_self (by assumption) | exact set_ne (by first | assumption | decide | omega) (by assumption)) | exact set_ne (by first | assumption | decide | omega) (by first | assumption | exact set_self (by assumption) | exact set_ne (by first | assumption | decide | omega) (by assumption))) | exact set_ne (by first | assumption | decide | omega) (by first | assumption | exact set_self (by first | assumption | exact set_self (by assumption) | exact set_ne (by first | assumption | decide | omega) (by assumption)) | exact set_ne (by first | assumption | decide | omega) (by first | assumption | exact set_self (by assumption) | exact set_ne (by first | assumption | decide | omega) (by assumption)))) rfl ?_
                  refine AW.bi (tgt := 177) (pn := 173) rfl (by decide) rfl (by first | exact bI_rng _ | exact ⟨by omega, by omega⟩) (by first | exact bI_rng _ | exact ⟨by omega, by omega⟩) (fun c170 => ?_) (fun c170 => ?_)
                  · dsimp only [cmpI] at c170
                    refine AW.go 1 (pc' := 179) rfl ?_
                    refine AW.ret rfl rfl (Nat.le_refl _) (Nat.le_refl _) ?_
                    first
                      | (exfalso; omega)
                      | (have hk : ksg (sga sg pm) = 1 := by omega
                         have hF := ff_at (sga sg pm) pm 1 hk
                         have hN1 := fn_at1 (sga sg pm) pm 1 hk
                         have hN2 := fn_at2 (sga sg pm) pm 1 hk
                         refine ⟨congrArg some ?_, _, rfl, fun q => ?_⟩ <;> omega)
                      | (have hk : ksg (sga sg pm) = 2 := by omega
                         have hF := ff_at (sga sg pm) pm 2 hk
                         have hN1 := fn_at1 (sga sg pm) pm 2 hk
                         have hN2 := fn_at2 (sga sg pm) pm 2 hk
                         refine ⟨congrArg some ?_, _, rfl, fun q => ?_⟩ <;> omega)
                  · dsimp only [cmpI] at c170
                    refine AW.go 2 (pc' := 179) rfl ?_
                    refine AW.ret rfl rfl (Nat.le_refl _) (Nat.le_refl _) ?_
                    first
                      | (exfalso; omega)
                      | (have hk : ksg (sga sg pm) = 1 := by omega
                         have hF := ff_at (sga sg pm) pm 1 hk
                         have hN1 := fn_at1 (sga sg pm) pm 1 hk
                         have hN2 := fn_at2 (sga sg pm) pm 1 hk
                         refine ⟨congrArg some ?_, _, rfl, fun q => ?_⟩ <;> omega)
                      | (have hk : ksg (sga sg pm) = 2 := by omega
                         have hF := ff_at (sga sg pm) pm 2 hk
                         have hN1 := fn_at1 (sga sg pm) pm 2 hk
                         have hN2 := fn_at2 (sga sg pm) pm 2 hk
                         refine ⟨congrArg some ?_, _, rfl, fun q => ?_⟩ <;> omega)
                · refine AW.go 3 (pc' := 133) rfl ?_
                  refine AW.callVF (pn := 136) rfl rfl mlX4_64 (by first | assumption | exact set_self (by first | assumption | exact set_self (by first | assumption | exact set_self (by assumption) | exact set_ne (by first | assumption | decide | omega) (by assumption)) | exact set_ne (by first | assumption | decide | omega) (by first | assumption | exact set_self (by assumption) | exact set_ne (by first | assumption | decide | omega) (by assumption))) | exact set_ne (by first | assumption | decide | omega) (by first | assumption | exact set_self (by first | assumption | exact set_self (by assumption) | exact set_ne (by first | assumption | decide | omega) (by assumption)) | exact set_ne (by first | assumption | decide | omega) (by first | assumption | exact set_self (by assumption) | exact set_ne (by first | assumption | decide | omega) (by assumption)))) (c_X4_isSign (d - 1) (by omega) _ _ _ _ _ _ (by first | assumption | exact set_self (by first | assumption | exact set_self (by first | assumption | exact set_self (by assumption) | exact set_ne (by first | assumption | decide | omega) (by assumption)) | exact set_ne (by first | assumption | decide | omega) (by first | assumption | exact set_self (by assumption) | exact set_ne (by first | assumption | decide | omega) (by assumption))) | exact set_ne (by first | assumption | decide | omega) (by first | assumption | exact set_self (by first | assumption | exact set_self (by assumption) | exact set_ne (by first | assumption | decide | omega) (by assumption)) | exact set_ne (by first | assumption | decide | omega) (by first | assumption | exact set_self (by assumption) | exact set_ne (by first | assumption | decide | omega) (by assumption)))) (by omega) _ (by first | assumption | exact set_self (by first | assumption | exact set_self (by first | assumption | exact set_self (by assumption) | exact set_ne (by first | assumption | decide | omega) (by assumption)) | exact set_ne (by first | assumption | decide | omega) (by first | assumption | exact set_self (by assumption) | exact set_ne (by first | assumption | decide | omega) (by assumption))) | exact set_ne (by first | assumption | decide | omega) (by first | assumption | exact set_self (by first | assumption | exact set_self (by assumption) | exact set_ne (by first | assumption | decide | omega) (by assumption)) | exact set_ne (by first | assumption | decide | omega) (by first | assumption | exact set_self (by assumption) | exact set_ne (by first | assumption | decide | omega) (by assumption)))) (by assumption) _ _ (by omega) (by omega)) rfl rfl (Nat.le_of_ble_eq_true rfl) ⟨by show d - 1 + 1 ≤ d; omega, by show 40 * (d - 1 + 1) ≤ 40 * d; omega⟩ ⟨Nat.zero_le _, Nat.zero_le _⟩ ?_
                  refine AW.bz (tgt := 155) (pn := 139) rfl (by decide) rfl (fun c136 => ?_) (fun c136 => ?_)
                  · refine AW.go 6 (pc' := 162) rfl ?_
                    refine AW.putf (pn := 165) rfl rfl flX4_68 (by first | assumption | exact set_self (by first | assumption | exact set_self (by first | assumption | exact set_self (by assumption) | exact set_ne (by first | assumption | decide | omega) (by assumption)) | exact set_ne (by first | assumption | decide | omega) (by first | assumption | exact set_self (by assumption) | exact set_ne (by first | assumption | decide | omega) (by assumption))) | exact set_ne (by first | assumption | decide | omega) (by first | assumption | exact set_self (by first | assumption | exact set_self (by assumption) | exact set_ne (by first | assumption | decide | omega) (by assumption)) | exact set_ne (by first | assumption | decide | omega) (by first | assumption | exact set_self (by assumption) | exact set_ne (by first | assumption | decide | omega) (by assumption)))) rfl (by first | trivial | exact bI_01 _ | exact Or.inl rfl | exact Or.inr rfl) ?_
                    refine AW.go 2 (pc' := 167) rfl ?_
                    refine AW.getf (pn := 170) rfl rfl flX4_52 (by first | assumption | exact set_self (by first | assumption | exact set_self (by first | assumption | exact set_self (by assumption) | exact set_ne (by first | assumption | decide | omega) (by assumption)) | exact set_ne (by first | assumption | decide | omega) (by first | assumption | exact set_self (by assumption) | exact set_ne (by first | assumption | decide | omega) (by assumption))) | exact set_ne (by first | assumption | decide | omega) (by first | assumption | exact set_self (by first | assumption | exact set_self (by assumption) | exact set_ne (by first | assumption | decide | omega) (by assumption)) | exact set_ne (by first | assumption | decide | omega) (by first | assumption | exact set_self (by assumption) | exact set_ne (by first | assumption | decide | omega) (by assumption)))) rfl ?_
                    refine AW.bi (tgt := 177) (pn := 173) rfl (by decide) rfl (by first | exact bI_rng _ | exact ⟨by omega, by omega⟩) (by first | exact bI_rng _ | exact ⟨by omega, by omega⟩) (fun c170 => ?_) (fun c170 => ?_)
                    · dsimp only [cmpI] at c170
                      refine AW.go 1 (pc' := 179) rfl ?_
                      refine AW.ret rfl rfl (Nat.le_refl _) (Nat.le_refl _) ?_
                      first
                        | (exfalso; omega)
                        | (have hk : ksg (sga sg pm) = 1 := by omega
                           have hF := ff_at (sga sg pm) pm 1 hk
                           have hN1 := fn_at1 (sga sg pm) pm 1 hk
                           have hN2 := fn_at2 (sga sg pm) pm 1 hk
                           refine ⟨congrArg some ?_, _, rfl, fun q => ?_⟩ <;> omega)
                        | (have hk : ksg (sga sg pm) = 2 := by omega
                           have hF := ff_at (sga sg pm) pm 2 hk
                           have hN1 := fn_at1 (sga sg pm) pm 2 hk
                           have hN2 := fn_at2 (sga sg pm) pm 2 hk
                           refine ⟨congrArg some ?_, _, rfl, fun q => ?_⟩ <;> omega)
                    · dsimp only [cmpI] at c170
                      refine AW.go 2 (pc' := 179) rfl ?_
                      refine AW.ret rfl rfl (Nat.le_refl _) (Nat.le_refl _) ?_
                      first
                        | (exfalso; omega)
                        | (have hk : ksg (sga sg pm) = 1 := by omega
                           have hF := ff_at (sga sg pm) pm 1 hk
                           have hN1 := fn_at1 (sga sg pm) pm 1 hk
                           have hN2 := fn_at2 (sga sg pm) pm 1 hk
                           refine ⟨congrArg some ?_, _, rfl, fun q => ?_⟩ <;> omega)
                        | (have hk : ksg (sga sg pm) = 2 := by omega
                           have hF := ff_at (sga sg pm) pm 2 hk
                           have hN1 := fn_at1 (sga sg pm) pm 2 hk
                           have hN2 := fn_at2 (sga sg pm) pm 2 hk
                           refine ⟨congrArg some ?_, _, rfl, fun q => ?_⟩ <;> omega)
                  · refine AW.go 2 (pc' := 142) rfl ?_
                    refine AW.getf (pn := 145) rfl rfl flX4_16 (by first | assumption | exact set_self (by first | assumption | exact set_self (by first | assumption | exact set_self (by assumption) | exact set_ne (by first | assumption | decide | omega) (by assumption)) | exact set_ne (by first | assumption | decide | omega) (by first | assumption | exact set_self (by assumption) | exact set_ne (by first | assumption | decide | omega) (by assumption))) | exact set_ne (by first | assumption | decide | omega) (by first | assumption | exact set_self (by first | assumption | exact set_self (by assumption) | exact set_ne (by first | assumption | decide | omega) (by assumption)) | exact set_ne (by first | assumption | decide | omega) (by first | assumption | exact set_self (by assumption) | exact set_ne (by first | assumption | decide | omega) (by assumption)))) rfl ?_
                    refine AW.go 1 (pc' := 146) rfl ?_
                    refine AW.iald (pn := 147) rfl rfl (by first | assumption | exact set_self (by first | assumption | exact set_self (by first | assumption | exact set_self (by assumption) | exact set_ne (by first | assumption | decide | omega) (by assumption)) | exact set_ne (by first | assumption | decide | omega) (by first | assumption | exact set_self (by assumption) | exact set_ne (by first | assumption | decide | omega) (by assumption))) | exact set_ne (by first | assumption | decide | omega) (by first | assumption | exact set_self (by first | assumption | exact set_self (by assumption) | exact set_ne (by first | assumption | decide | omega) (by assumption)) | exact set_ne (by first | assumption | decide | omega) (by first | assumption | exact set_self (by assumption) | exact set_ne (by first | assumption | decide | omega) (by assumption)))) (by decide) (by omega) (by omega) ?_
                    refine AW.go 11 (pc' := 162) rfl ?_
                    refine AW.putf (pn := 165) rfl rfl flX4_68 (by first | assumption | exact set_self (by first | assumption | exact set_self (by first | assumption | exact set_self (by assumption) | exact set_ne (by first | assumption | decide | omega) (by assumption)) | exact set_ne (by first | assumption | decide | omega) (by first | assumption | exact set_self (by assumption) | exact set_ne (by first | assumption | decide | omega) (by assumption))) | exact set_ne (by first | assumption | decide | omega) (by first | assumption | exact set_self (by first | assumption | exact set_self (by assumption) | exact set_ne (by first | assumption | decide | omega) (by assumption)) | exact set_ne (by first | assumption | decide | omega) (by first | assumption | exact set_self (by assumption) | exact set_ne (by first | assumption | decide | omega) (by assumption)))) rfl (by first | trivial | exact bI_01 _ | exact Or.inl rfl | exact Or.inr rfl) ?_
                    refine AW.go 2 (pc' := 167) rfl ?_
                    refine AW.getf (pn := 170) rfl rfl flX4_52 (by first | assumption | exact set_self (by first | assumption | exact set_self (by first | assumption | exact set_self (by assumption) | exact set_ne (by first | assumption | decide | omega) (by assumption)) | exact set_ne (by first | assumption | decide | omega) (by first | assumption | exact set_self (by assumption) | exact set_ne (by first | assumption | decide | omega) (by assumption))) | exact set_ne (by first | assumption | decide | omega) (by first | assumption | exact set_self (by first | assumption | exact set_self (by assumption) | exact set_ne (by first | assumption | decide | omega) (by assumption)) | exact set_ne (by first | assumption | decide | omega) (by first | assumption | exact set_self (by assumption) | exact set_ne (by first | assumption | decide | omega) (by assumption)))) rfl ?_
                    refine AW.bi (tgt := 177) (pn := 173) rfl (by decide) rfl (by first | exact bI_rng _ | exact ⟨by omega, by omega⟩) (by first | exact bI_rng _ | exact ⟨by omega, by omega⟩) (fun c170 => ?_) (fun c170 => ?_)
                    · dsimp only [cmpI] at c170
                      refine AW.go 1 (pc' := 179) rfl ?_
                      refine AW.ret rfl rfl (Nat.le_refl _) (Nat.le_refl _) ?_
                      first
                        | (exfalso; omega)
                        | (have hk : ksg (sga sg pm) = 1 := by omega
                           have hF := ff_at (sga sg pm) pm 1 hk
                           have hN1 := fn_at1 (sga sg pm) pm 1 hk
                           have hN2 := fn_at2 (sga sg pm) pm 1 hk
                           refine ⟨congrArg some ?_, _, rfl, fun q => ?_⟩ <;> omega)
                        | (have hk : ksg (sga sg pm) = 2 := by omega
                           have hF := ff_at (sga sg pm) pm 2 hk
                           have hN1 := fn_at1 (sga sg pm) pm 2 hk
                           have hN2 := fn_at2 (sga sg pm) pm 2 hk
                           refine ⟨congrArg some ?_, _, rfl, fun q => ?_⟩ <;> omega)
                    · dsimp only [cmpI] at c170
                      refine AW.go 2 (pc' := 179) rfl ?_
                      refine AW.ret rfl rfl (Nat.le_refl _) (Nat.le_refl _) ?_
                      first
                        | (exfalso; omega)
                        | (have hk : ksg (sga sg pm) = 1 := by omega
                           have hF := ff_at (sga sg pm) pm 1 hk
                           have hN1 := fn_at1 (sga sg pm) pm 1 hk
                           have hN2 := fn_at2 (sga sg pm) pm 1 hk
                           refine ⟨congrArg some ?_, _, rfl, fun q => ?_⟩ <;> omega)
                        | (have hk : ksg (sga sg pm) = 2 := by omega
                           have hF := ff_at (sga sg pm) pm 2 hk
                           have hN1 := fn_at1 (sga sg pm) pm 2 hk
                           have hN2 := fn_at2 (sga sg pm) pm 2 hk
                           refine ⟨congrArg some ?_, _, rfl, fun q => ?_⟩ <;> omega)
            · refine AW.go 1 (pc' := 100) rfl ?_
              refine AW.ret rfl rfl (Nat.le_refl _) (Nat.le_refl _) ?_
              first
                | (exfalso; omega)
                | (have hk : ksg (sga sg pm) = 1 := by omega
                   have hF := ff_at (sga sg pm) pm 1 hk
                   have hN1 := fn_at1 (sga sg pm) pm 1 hk
                   have hN2 := fn_at2 (sga sg pm) pm 1 hk
                   refine ⟨congrArg some ?_, rf, (set_same hO).symm, fun q => ?_⟩ <;> omega)
                | (have hk : ksg (sga sg pm) = 2 := by omega
                   have hF := ff_at (sga sg pm) pm 2 hk
                   have hN1 := fn_at1 (sga sg pm) pm 2 hk
                   have hN2 := fn_at2 (sga sg pm) pm 2 hk
                   refine ⟨congrArg some ?_, rf, (set_same hO).symm, fun q => ?_⟩ <;> omega)
    · dsimp only [cmpI] at c46
      refine AW.go 1 (pc' := 50) rfl ?_
      refine AW.ret rfl rfl (Nat.le_refl _) (Nat.le_refl _) ?_
      first
        | (exfalso; omega)
        | (have hk : ksg (sga sg pm) = 0 := by omega
           have hF := ff_at (sga sg pm) pm 0 hk
           refine ⟨congrArg some ?_, rf, (set_same hO).symm, fun q => ?_⟩ <;> omega)
set_option maxHeartbeats 2000000 in
theorem c_X4_fault (d : Nat) (hd : 3 ≤ d) (h : List AC) (pm rf gm ka wr9 : Int) (hO : h[29]? = some (ao 4 (mo pm rf gm ka wr9))) (rc : 0 ≤ pm ∧ pm ≤ 20) (sg : Nat → Int) (hP : h[32]? = some (ai 0 20 sg)) (hs : sn sg) (a : Int) (ra : -2147483648 ≤ a ∧ a < 2147483648) : M0 zX4_fault d [vr 29, vi a] h (fun v u => v = some (V_fault (sga sg pm) pm a) ∧ ∃ rf2 : Int, u = h.set 29 (ao 4 (mo pm rf2 gm ka wr9))) := by
  refine M0.of okX4_fault (Nat.le_of_ble_eq_true rfl) ?_
  refine AW.go 1 (pc' := 1) rfl ?_
  refine AW.br (tgt := 12) (pn := 4) rfl (by decide) rfl (by first | exact bI_rng _ | exact ⟨by omega, by omega⟩) (fun c1 => ?_) (fun c1 => ?_)
  · dsimp only [cmpI] at c1
    refine AW.go 2 (pc' := 14) rfl ?_
    refine AW.bi (tgt := 25) (pn := 17) rfl (by decide) rfl (by first | exact bI_rng _ | exact ⟨by omega, by omega⟩) (by first | exact bI_rng _ | exact ⟨by omega, by omega⟩) (fun c14 => ?_) (fun c14 => ?_)
    · dsimp only [cmpI] at c14
      refine AW.go 2 (pc' := 27) rfl ?_
      refine AW.bi (tgt := 37) (pn := 30) rfl (by decide) rfl (by first | exact bI_rng _ | exact ⟨by omega, by omega⟩) (by first | exact bI_rng _ | exact ⟨by omega, by omega⟩) (fun c27 => ?_) (fun c27 => ?_)
      · dsimp only [cmpI] at c27
        refine AW.go 1 (pc' := 39) rfl ?_
        refine AW.ret rfl rfl (Nat.le_refl _) (Nat.le_refl _) ?_
        refine ⟨congrArg some ?_, ?_⟩
        · unfold V_fault; (repeat' split) <;> first | rfl | omega
        · first | exact ⟨_, rfl⟩ | exact ⟨rf, (set_same hO).symm⟩
      · dsimp only [cmpI] at c27
        refine AW.go 1 (pc' := 31) rfl ?_
        refine AW.callV (pn := 34) rfl rfl mlX4_75 (by first | assumption | exact set_self (by first | assumption | exact set_self (by first | assumption | exact set_self (by assumption) | exact set_ne (by first | assumption | decide | omega) (by assumption)) | exact set_ne (by first | assumption | decide | omega) (by first | assumption | exact set_self (by assumption) | exact set_ne (by first | assumption | decide | omega) (by assumption))) | exact set_ne (by first | assumption | decide | omega) (by first | assumption | exact set_self (by first | assumption | exact set_self (by assumption) | exact set_ne (by first | assumption | decide | omega) (by assumption)) | exact set_ne (by first | assumption | decide | omega) (by first | assumption | exact set_self (by assumption) | exact set_ne (by first | assumption | decide | omega) (by assumption)))) (c_X4_faultOfForm (d - 1) (by omega) _ _ _ _ _ _ (by first | assumption | exact set_self (by first | assumption | exact set_self (by first | assumption | exact set_self (by assumption) | exact set_ne (by first | assumption | decide | omega) (by assumption)) | exact set_ne (by first | assumption | decide | omega) (by first | assumption | exact set_self (by assumption) | exact set_ne (by first | assumption | decide | omega) (by assumption))) | exact set_ne (by first | assumption | decide | omega) (by first | assumption | exact set_self (by first | assumption | exact set_self (by assumption) | exact set_ne (by first | assumption | decide | omega) (by assumption)) | exact set_ne (by first | assumption | decide | omega) (by first | assumption | exact set_self (by assumption) | exact set_ne (by first | assumption | decide | omega) (by assumption)))) (by omega) _ (by first | assumption | exact set_self (by first | assumption | exact set_self (by first | assumption | exact set_self (by assumption) | exact set_ne (by first | assumption | decide | omega) (by assumption)) | exact set_ne (by first | assumption | decide | omega) (by first | assumption | exact set_self (by assumption) | exact set_ne (by first | assumption | decide | omega) (by assumption))) | exact set_ne (by first | assumption | decide | omega) (by first | assumption | exact set_self (by first | assumption | exact set_self (by assumption) | exact set_ne (by first | assumption | decide | omega) (by assumption)) | exact set_ne (by first | assumption | decide | omega) (by first | assumption | exact set_self (by assumption) | exact set_ne (by first | assumption | decide | omega) (by assumption)))) (by assumption) ) rfl rfl (Nat.le_of_ble_eq_true rfl) ⟨by show d - 1 + 1 ≤ d; omega, by show 40 * (d - 1 + 1) ≤ 40 * d; omega⟩ ⟨Nat.zero_le _, Nat.zero_le _⟩ ?_
        intro v u hq
        obtain ⟨rfl, rf2, rfl, hrf⟩ := hq
        refine AW.go 1 (pc' := 39) rfl ?_
        refine AW.ret rfl rfl (Nat.le_refl _) (Nat.le_refl _) ?_
        refine ⟨congrArg some ?_, ?_⟩
        · unfold V_fault; (repeat' split) <;> first | rfl | omega
        · first | exact ⟨_, rfl⟩ | exact ⟨rf, (set_same hO).symm⟩
    · dsimp only [cmpI] at c14
      refine AW.go 2 (pc' := 19) rfl ?_
      refine AW.callVF (pn := 22) rfl rfl mlX4_71 (by first | assumption | exact set_self (by first | assumption | exact set_self (by first | assumption | exact set_self (by assumption) | exact set_ne (by first | assumption | decide | omega) (by assumption)) | exact set_ne (by first | assumption | decide | omega) (by first | assumption | exact set_self (by assumption) | exact set_ne (by first | assumption | decide | omega) (by assumption))) | exact set_ne (by first | assumption | decide | omega) (by first | assumption | exact set_self (by first | assumption | exact set_self (by assumption) | exact set_ne (by first | assumption | decide | omega) (by assumption)) | exact set_ne (by first | assumption | decide | omega) (by first | assumption | exact set_self (by assumption) | exact set_ne (by first | assumption | decide | omega) (by assumption)))) (c_X4_faultOfTones (d - 1) (by omega) _ _ _ _ _ _ (by first | assumption | exact set_self (by first | assumption | exact set_self (by first | assumption | exact set_self (by assumption) | exact set_ne (by first | assumption | decide | omega) (by assumption)) | exact set_ne (by first | assumption | decide | omega) (by first | assumption | exact set_self (by assumption) | exact set_ne (by first | assumption | decide | omega) (by assumption))) | exact set_ne (by first | assumption | decide | omega) (by first | assumption | exact set_self (by first | assumption | exact set_self (by assumption) | exact set_ne (by first | assumption | decide | omega) (by assumption)) | exact set_ne (by first | assumption | decide | omega) (by first | assumption | exact set_self (by assumption) | exact set_ne (by first | assumption | decide | omega) (by assumption)))) (by omega) _ (by first | assumption | exact set_self (by first | assumption | exact set_self (by first | assumption | exact set_self (by assumption) | exact set_ne (by first | assumption | decide | omega) (by assumption)) | exact set_ne (by first | assumption | decide | omega) (by first | assumption | exact set_self (by assumption) | exact set_ne (by first | assumption | decide | omega) (by assumption))) | exact set_ne (by first | assumption | decide | omega) (by first | assumption | exact set_self (by first | assumption | exact set_self (by assumption) | exact set_ne (by first | assumption | decide | omega) (by assumption)) | exact set_ne (by first | assumption | decide | omega) (by first | assumption | exact set_self (by assumption) | exact set_ne (by first | assumption | decide | omega) (by assumption)))) (by assumption) _ (by omega)) rfl rfl (Nat.le_of_ble_eq_true rfl) ⟨by show d - 1 + 1 ≤ d; omega, by show 40 * (d - 1 + 1) ≤ 40 * d; omega⟩ ⟨Nat.zero_le _, Nat.zero_le _⟩ ?_
      refine AW.go 1 (pc' := 39) rfl ?_
      refine AW.ret rfl rfl (Nat.le_refl _) (Nat.le_refl _) ?_
      refine ⟨congrArg some ?_, ?_⟩
      · unfold V_fault; (repeat' split) <;> first | rfl | omega
      · first | exact ⟨_, rfl⟩ | exact ⟨rf, (set_same hO).symm⟩
  · dsimp only [cmpI] at c1
    refine AW.go 2 (pc' := 6) rfl ?_
    refine AW.callVF (pn := 9) rfl rfl mlX4_71 (by first | assumption | exact set_self (by first | assumption | exact set_self (by first | assumption | exact set_self (by assumption) | exact set_ne (by first | assumption | decide | omega) (by assumption)) | exact set_ne (by first | assumption | decide | omega) (by first | assumption | exact set_self (by assumption) | exact set_ne (by first | assumption | decide | omega) (by assumption))) | exact set_ne (by first | assumption | decide | omega) (by first | assumption | exact set_self (by first | assumption | exact set_self (by assumption) | exact set_ne (by first | assumption | decide | omega) (by assumption)) | exact set_ne (by first | assumption | decide | omega) (by first | assumption | exact set_self (by assumption) | exact set_ne (by first | assumption | decide | omega) (by assumption)))) (c_X4_faultOfTones (d - 1) (by omega) _ _ _ _ _ _ (by first | assumption | exact set_self (by first | assumption | exact set_self (by first | assumption | exact set_self (by assumption) | exact set_ne (by first | assumption | decide | omega) (by assumption)) | exact set_ne (by first | assumption | decide | omega) (by first | assumption | exact set_self (by assumption) | exact set_ne (by first | assumption | decide | omega) (by assumption))) | exact set_ne (by first | assumption | decide | omega) (by first | assumption | exact set_self (by first | assumption | exact set_self (by assumption) | exact set_ne (by first | assumption | decide | omega) (by assumption)) | exact set_ne (by first | assumption | decide | omega) (by first | assumption | exact set_self (by assumption) | exact set_ne (by first | assumption | decide | omega) (by assumption)))) (by omega) _ (by first | assumption | exact set_self (by first | assumption | exact set_self (by first | assumption | exact set_self (by assumption) | exact set_ne (by first | assumption | decide | omega) (by assumption)) | exact set_ne (by first | assumption | decide | omega) (by first | assumption | exact set_self (by assumption) | exact set_ne (by first | assumption | decide | omega) (by assumption))) | exact set_ne (by first | assumption | decide | omega) (by first | assumption | exact set_self (by first | assumption | exact set_self (by assumption) | exact set_ne (by first | assumption | decide | omega) (by assumption)) | exact set_ne (by first | assumption | decide | omega) (by first | assumption | exact set_self (by assumption) | exact set_ne (by first | assumption | decide | omega) (by assumption)))) (by assumption) _ (by omega)) rfl rfl (Nat.le_of_ble_eq_true rfl) ⟨by show d - 1 + 1 ≤ d; omega, by show 40 * (d - 1 + 1) ≤ 40 * d; omega⟩ ⟨Nat.zero_le _, Nat.zero_le _⟩ ?_
    refine AW.go 1 (pc' := 39) rfl ?_
    refine AW.ret rfl rfl (Nat.le_refl _) (Nat.le_refl _) ?_
    refine ⟨congrArg some ?_, ?_⟩
    · unfold V_fault; (repeat' split) <;> first | rfl | omega
    · first | exact ⟨_, rfl⟩ | exact ⟨rf, (set_same hO).symm⟩
set_option maxHeartbeats 2000000 in
theorem c_X4_named (d : Nat) (hd : 3 ≤ d) (h : List AC) (pm rf gm ka wr9 : Int) (hO : h[29]? = some (ao 4 (mo pm rf gm ka wr9))) (rc : 0 ≤ pm ∧ pm ≤ 20) (sg : Nat → Int) (hP : h[32]? = some (ai 0 20 sg)) (hs : sn sg) : M0 zX4_named d [vr 29] h (fun v u => v = some (V_named (sga sg pm) pm) ∧ ∃ rf2 : Int, u = h.set 29 (ao 4 (mo pm rf2 gm ka wr9))) := by
  refine M0.of okX4_named (Nat.le_of_ble_eq_true rfl) ?_
  refine AW.go 1 (pc' := 1) rfl ?_
  refine AW.callV (pn := 4) rfl rfl mlX4_75 (by first | assumption | exact set_self (by first | assumption | exact set_self (by first | assumption | exact set_self (by assumption) | exact set_ne (by first | assumption | decide | omega) (by assumption)) | exact set_ne (by first | assumption | decide | omega) (by first | assumption | exact set_self (by assumption) | exact set_ne (by first | assumption | decide | omega) (by assumption))) | exact set_ne (by first | assumption | decide | omega) (by first | assumption | exact set_self (by first | assumption | exact set_self (by assumption) | exact set_ne (by first | assumption | decide | omega) (by assumption)) | exact set_ne (by first | assumption | decide | omega) (by first | assumption | exact set_self (by assumption) | exact set_ne (by first | assumption | decide | omega) (by assumption)))) (c_X4_faultOfForm (d - 1) (by omega) _ _ _ _ _ _ (by first | assumption | exact set_self (by first | assumption | exact set_self (by first | assumption | exact set_self (by assumption) | exact set_ne (by first | assumption | decide | omega) (by assumption)) | exact set_ne (by first | assumption | decide | omega) (by first | assumption | exact set_self (by assumption) | exact set_ne (by first | assumption | decide | omega) (by assumption))) | exact set_ne (by first | assumption | decide | omega) (by first | assumption | exact set_self (by first | assumption | exact set_self (by assumption) | exact set_ne (by first | assumption | decide | omega) (by assumption)) | exact set_ne (by first | assumption | decide | omega) (by first | assumption | exact set_self (by assumption) | exact set_ne (by first | assumption | decide | omega) (by assumption)))) (by omega) _ (by first | assumption | exact set_self (by first | assumption | exact set_self (by first | assumption | exact set_self (by assumption) | exact set_ne (by first | assumption | decide | omega) (by assumption)) | exact set_ne (by first | assumption | decide | omega) (by first | assumption | exact set_self (by assumption) | exact set_ne (by first | assumption | decide | omega) (by assumption))) | exact set_ne (by first | assumption | decide | omega) (by first | assumption | exact set_self (by first | assumption | exact set_self (by assumption) | exact set_ne (by first | assumption | decide | omega) (by assumption)) | exact set_ne (by first | assumption | decide | omega) (by first | assumption | exact set_self (by assumption) | exact set_ne (by first | assumption | decide | omega) (by assumption)))) (by assumption) ) rfl rfl (Nat.le_of_ble_eq_true rfl) ⟨by show d - 1 + 1 ≤ d; omega, by show 40 * (d - 1 + 1) ≤ 40 * d; omega⟩ ⟨Nat.zero_le _, Nat.zero_le _⟩ ?_
  intro v u hq
  obtain ⟨rfl, rf2, rfl, hrf⟩ := hq
  have b0 := fft_b (sga sg pm) pm
  have hF9 : fft (sga sg pm) pm = -6 ∨ 0 ≤ fft (sga sg pm) pm := by have := ksg_b (sga sg pm); have := ff_at (sga sg pm) pm _ rfl; omega
  refine AW.br (tgt := 12) (pn := 7) rfl (by decide) rfl (by first | exact bI_rng _ | exact ⟨by omega, by omega⟩) (fun c4 => ?_) (fun c4 => ?_)
  · dsimp only [cmpI] at c4
    refine AW.go 1 (pc' := 13) rfl ?_
    refine AW.getf (pn := 16) rfl rfl flX4_68 (by first | assumption | exact set_self (by first | assumption | exact set_self (by first | assumption | exact set_self (by assumption) | exact set_ne (by first | assumption | decide | omega) (by assumption)) | exact set_ne (by first | assumption | decide | omega) (by first | assumption | exact set_self (by assumption) | exact set_ne (by first | assumption | decide | omega) (by assumption))) | exact set_ne (by first | assumption | decide | omega) (by first | assumption | exact set_self (by first | assumption | exact set_self (by assumption) | exact set_ne (by first | assumption | decide | omega) (by assumption)) | exact set_ne (by first | assumption | decide | omega) (by first | assumption | exact set_self (by assumption) | exact set_ne (by first | assumption | decide | omega) (by assumption)))) rfl ?_
    refine AW.ret rfl rfl (Nat.le_refl _) (Nat.le_refl _) ?_
    refine ⟨congrArg some ?_, _, rfl⟩
    unfold V_named
    (repeat' split) <;> first | rfl | omega
  · dsimp only [cmpI] at c4
    refine AW.go 2 (pc' := 16) rfl ?_
    refine AW.ret rfl rfl (Nat.le_refl _) (Nat.le_refl _) ?_
    refine ⟨congrArg some ?_, _, rfl⟩
    unfold V_named
    (repeat' split) <;> first | rfl | omega
set_option maxHeartbeats 4000000 in
theorem l_X4_load (d : Nat) (hd : 2 ≤ d) (h : List AC) (pm rf gm ka wr9 : Int) (hO : h[29]? = some (ao 4 (mo pm rf gm ka wr9))) (rc : 0 ≤ pm ∧ pm ≤ 20) (sg : Nat → Int) (hP : h[32]? = some (ai 0 20 sg)) (hs : sn sg) (m : Nat → Int) (hM : h[30]? = some (ai 0 48 m)) (r : Int) (rr : 0 ≤ r ∧ r < 4) : ∀ (n : Nat) (k : Int), (0 ≤ k) → (k ≤ 12) → ((12 - k).toNat) < n → AW zX4_load Eq (rmd d) 0 0 0 0 22 [(2, vi k), (0, vr 29), (1, vi r)] [] (h.set 30 (ai 0 48 (tset m r.toNat (fun j => tof (sg j)) k.toNat))) (fun v u => v = some 1 ∧ u = (h.set 30 (ai 0 48 (tset m r.toNat (fun j => tof (sg j)) 12))).set 29 (ao 4 (mo 0 rf gm ka wr9))) := by
  intro n
  induction n with
  | zero =>
    intro k h0 h1 hn
    exact absurd hn (Nat.not_lt_zero _)
  | succ n ih =>
    intro k h0 h1 hn
    refine AW.go 2 (pc' := 25) rfl ?_
    refine AW.bi (tgt := 54) (pn := 28) rfl (by decide) rfl (by first | exact bI_rng _ | exact ⟨by omega, by omega⟩) (by first | exact bI_rng _ | exact ⟨by omega, by omega⟩) (fun c25 => ?_) (fun c25 => ?_)
    · dsimp only [cmpI] at c25
      refine AW.go 2 (pc' := 56) rfl ?_
      refine AW.putf (pn := 59) rfl rfl flX4_52 (by first | assumption | exact set_self (by first | assumption | exact set_self (by first | assumption | exact set_self (by assumption) | exact set_ne (by first | assumption | decide | omega) (by assumption)) | exact set_ne (by first | assumption | decide | omega) (by first | assumption | exact set_self (by assumption) | exact set_ne (by first | assumption | decide | omega) (by assumption))) | exact set_ne (by first | assumption | decide | omega) (by first | assumption | exact set_self (by first | assumption | exact set_self (by assumption) | exact set_ne (by first | assumption | decide | omega) (by assumption)) | exact set_ne (by first | assumption | decide | omega) (by first | assumption | exact set_self (by assumption) | exact set_ne (by first | assumption | decide | omega) (by assumption)))) rfl (by first | trivial | exact bI_01 _ | exact Or.inl rfl | exact Or.inr rfl) ?_
      refine AW.go 1 (pc' := 60) rfl ?_
      refine AW.ret rfl rfl (Nat.le_refl _) (Nat.le_refl _) ?_
      refine ⟨rfl, ?_⟩
      rw [show k.toNat = 12 by omega]
      rfl
    · dsimp only [cmpI] at c25
      refine AW.go 1 (pc' := 29) rfl ?_
      refine AW.getf (pn := 32) rfl rfl flX4_7 (by first | assumption | exact set_self (by first | assumption | exact set_self (by first | assumption | exact set_self (by assumption) | exact set_ne (by first | assumption | decide | omega) (by assumption)) | exact set_ne (by first | assumption | decide | omega) (by first | assumption | exact set_self (by assumption) | exact set_ne (by first | assumption | decide | omega) (by assumption))) | exact set_ne (by first | assumption | decide | omega) (by first | assumption | exact set_self (by first | assumption | exact set_self (by assumption) | exact set_ne (by first | assumption | decide | omega) (by assumption)) | exact set_ne (by first | assumption | decide | omega) (by first | assumption | exact set_self (by assumption) | exact set_ne (by first | assumption | decide | omega) (by assumption)))) rfl ?_
      refine AW.go 6 (pc' := 39) rfl ?_
      refine AW.getf (pn := 42) rfl rfl flX4_16 (by first | assumption | exact set_self (by first | assumption | exact set_self (by first | assumption | exact set_self (by assumption) | exact set_ne (by first | assumption | decide | omega) (by assumption)) | exact set_ne (by first | assumption | decide | omega) (by first | assumption | exact set_self (by assumption) | exact set_ne (by first | assumption | decide | omega) (by assumption))) | exact set_ne (by first | assumption | decide | omega) (by first | assumption | exact set_self (by first | assumption | exact set_self (by assumption) | exact set_ne (by first | assumption | decide | omega) (by assumption)) | exact set_ne (by first | assumption | decide | omega) (by first | assumption | exact set_self (by assumption) | exact set_ne (by first | assumption | decide | omega) (by assumption)))) rfl ?_
      refine AW.go 1 (pc' := 43) rfl ?_
      refine AW.iald (pn := 44) rfl rfl (by first | assumption | exact set_self (by first | assumption | exact set_self (by first | assumption | exact set_self (by assumption) | exact set_ne (by first | assumption | decide | omega) (by assumption)) | exact set_ne (by first | assumption | decide | omega) (by first | assumption | exact set_self (by assumption) | exact set_ne (by first | assumption | decide | omega) (by assumption))) | exact set_ne (by first | assumption | decide | omega) (by first | assumption | exact set_self (by first | assumption | exact set_self (by assumption) | exact set_ne (by first | assumption | decide | omega) (by assumption)) | exact set_ne (by first | assumption | decide | omega) (by first | assumption | exact set_self (by assumption) | exact set_ne (by first | assumption | decide | omega) (by assumption)))) (by decide) (by omega) (by omega) ?_
      have g1 := hs k.toNat (by omega)
      refine AW.callSF (pn := 47) rfl rfl mlX4_60 (c_X4_toneOf (d - 1) (by omega) _ _ (by omega)) rfl rfl (Nat.le_of_ble_eq_true rfl) ⟨by show d - 1 + 1 ≤ d; omega, by show 40 * (d - 1 + 1) ≤ 40 * d; omega⟩ ⟨Nat.zero_le _, Nat.zero_le _⟩ ?_
      refine AW.iast (pn := 48) rfl rfl (by first | assumption | exact set_self (by first | assumption | exact set_self (by first | assumption | exact set_self (by assumption) | exact set_ne (by first | assumption | decide | omega) (by assumption)) | exact set_ne (by first | assumption | decide | omega) (by first | assumption | exact set_self (by assumption) | exact set_ne (by first | assumption | decide | omega) (by assumption))) | exact set_ne (by first | assumption | decide | omega) (by first | assumption | exact set_self (by first | assumption | exact set_self (by assumption) | exact set_ne (by first | assumption | decide | omega) (by assumption)) | exact set_ne (by first | assumption | decide | omega) (by first | assumption | exact set_self (by assumption) | exact set_ne (by first | assumption | decide | omega) (by assumption)))) (by decide) (by omega) (by omega) ?_
      refine AW.go 2 (pc' := 22) rfl ?_
      rw [List.set_set, show (12 * r + k).toNat = 12 * r.toNat + k.toNat by omega, show tof (sg k.toNat) = (fun j => tof (sg j)) k.toNat from rfl, tset_s, ← k1 h0]
      refine AW.lw ?_ (ih (k + 1) (by omega) (by omega) (by omega))
      exact (And.intro rfl (And.intro rfl (And.intro rfl trivial)))
set_option maxHeartbeats 2000000 in
theorem c_X4_load (d : Nat) (hd : 3 ≤ d) (h : List AC) (pm rf gm ka wr9 : Int) (hO : h[29]? = some (ao 4 (mo pm rf gm ka wr9))) (rc : 0 ≤ pm ∧ pm ≤ 20) (sg : Nat → Int) (hP : h[32]? = some (ai 0 20 sg)) (hs : sn sg) (m : Nat → Int) (hM : h[30]? = some (ai 0 48 m)) (r : Int) (rr : -2147483648 ≤ r ∧ r < 2147483648) : M0 zX4_load d [vr 29, vi r] h (fun v u => (v = some (if 0 ≤ r ∧ r < 4 then (if rft (sga sg pm) pm 0 12 0 0 = -6 then 1 else -5) else -1)) ∧ u = if (0 ≤ r ∧ r < 4) ∧ rft (sga sg pm) pm 0 12 0 0 = -6 then (h.set 30 (ai 0 48 (tset m r.toNat (fun j => tof (sg j)) 12))).set 29 (ao 4 (mo 0 rf gm ka wr9)) else h) := by
  refine M0.of okX4_load (Nat.le_of_ble_eq_true rfl) ?_
  refine AW.go 1 (pc' := 1) rfl ?_
  refine AW.callSF (pn := 4) rfl rfl mlX4_79 (c_X4_isRow (d - 1) (by omega) _ _ (by omega)) rfl rfl (Nat.le_of_ble_eq_true rfl) ⟨by show d - 1 + 1 ≤ d; omega, by show 40 * (d - 1 + 1) ≤ 40 * d; omega⟩ ⟨Nat.zero_le _, Nat.zero_le _⟩ ?_
  refine AW.bnz (tgt := 9) (pn := 7) rfl (by decide) rfl (fun c4 => ?_) (fun c4 => ?_)
  · refine AW.go 2 (pc' := 11) rfl ?_
    refine AW.callVF (pn := 14) rfl rfl mlX4_71 (by first | assumption | exact set_self (by first | assumption | exact set_self (by first | assumption | exact set_self (by assumption) | exact set_ne (by first | assumption | decide | omega) (by assumption)) | exact set_ne (by first | assumption | decide | omega) (by first | assumption | exact set_self (by assumption) | exact set_ne (by first | assumption | decide | omega) (by assumption))) | exact set_ne (by first | assumption | decide | omega) (by first | assumption | exact set_self (by first | assumption | exact set_self (by assumption) | exact set_ne (by first | assumption | decide | omega) (by assumption)) | exact set_ne (by first | assumption | decide | omega) (by first | assumption | exact set_self (by assumption) | exact set_ne (by first | assumption | decide | omega) (by assumption)))) (c_X4_faultOfTones (d - 1) (by omega) _ _ _ _ _ _ (by first | assumption | exact set_self (by first | assumption | exact set_self (by first | assumption | exact set_self (by assumption) | exact set_ne (by first | assumption | decide | omega) (by assumption)) | exact set_ne (by first | assumption | decide | omega) (by first | assumption | exact set_self (by assumption) | exact set_ne (by first | assumption | decide | omega) (by assumption))) | exact set_ne (by first | assumption | decide | omega) (by first | assumption | exact set_self (by first | assumption | exact set_self (by assumption) | exact set_ne (by first | assumption | decide | omega) (by assumption)) | exact set_ne (by first | assumption | decide | omega) (by first | assumption | exact set_self (by assumption) | exact set_ne (by first | assumption | decide | omega) (by assumption)))) (by omega) _ (by first | assumption | exact set_self (by first | assumption | exact set_self (by first | assumption | exact set_self (by assumption) | exact set_ne (by first | assumption | decide | omega) (by assumption)) | exact set_ne (by first | assumption | decide | omega) (by first | assumption | exact set_self (by assumption) | exact set_ne (by first | assumption | decide | omega) (by assumption))) | exact set_ne (by first | assumption | decide | omega) (by first | assumption | exact set_self (by first | assumption | exact set_self (by assumption) | exact set_ne (by first | assumption | decide | omega) (by assumption)) | exact set_ne (by first | assumption | decide | omega) (by first | assumption | exact set_self (by assumption) | exact set_ne (by first | assumption | decide | omega) (by assumption)))) (by assumption) _ (by omega)) rfl rfl (Nat.le_of_ble_eq_true rfl) ⟨by show d - 1 + 1 ≤ d; omega, by show 40 * (d - 1 + 1) ≤ 40 * d; omega⟩ ⟨Nat.zero_le _, Nat.zero_le _⟩ ?_
    have b0 := rft_b (sga sg pm) pm 0 12 0 0 (by omega) (by omega)
    have b1 : rft (sga sg pm) pm 0 12 0 0 = -6 ∨ 0 ≤ rft (sga sg pm) pm 0 12 0 0 := rft_n (sga sg pm) pm 0 12 0 0 (by omega)
    refine AW.br (tgt := 20) (pn := 17) rfl (by decide) rfl (by first | exact bI_rng _ | exact ⟨by omega, by omega⟩) (fun c14 => ?_) (fun c14 => ?_)
    · dsimp only [cmpI] at c14
      refine AW.go 2 (pc' := 22) rfl ?_
      have e := l_X4_load d (by omega) h pm rf gm ka wr9 hO rc sg hP hs m hM r c4 _ 0 (by omega) (by omega) (Nat.lt_succ_self _)
      rw [show (0 : Int).toNat = 0 from rfl, tset_0, set_same hM] at e
      refine AW.lw ?_ (AW.post e (fun v u hq => by rw [if_pos c4, if_pos (by omega), if_pos ⟨c4, by omega⟩]; exact hq))
      exact (And.intro rfl (And.intro rfl (And.intro rfl trivial)))
    · dsimp only [cmpI] at c14
      refine AW.go 1 (pc' := 19) rfl ?_
      refine AW.ret rfl rfl (Nat.le_refl _) (Nat.le_refl _) ?_
      refine ⟨congrArg some ?_, ?_⟩
      · (repeat' split) <;> first | rfl | omega
      · first | rw [if_pos (by omega)] | rw [if_neg (by omega)]
  · refine AW.go 1 (pc' := 8) rfl ?_
    refine AW.ret rfl rfl (Nat.le_refl _) (Nat.le_refl _) ?_
    refine ⟨congrArg some ?_, ?_⟩
    · (repeat' split) <;> first | rfl | omega
    · first | rw [if_pos (by omega)] | rw [if_neg (by omega)]

set_option maxHeartbeats 4000000 in
theorem l_X4_punch (d : Nat) (hd : 2 ≤ d) (h : List AC) (pm rf gm ka wr9 : Int) (hO : h[29]? = some (ao 4 (mo pm rf gm ka wr9))) (rc : 0 ≤ pm ∧ pm ≤ 20) (sg : Nat → Int) (hP : h[32]? = some (ai 0 20 sg)) (hs : sn sg) (pat : Nat → Int) (hT : h[31]? = some (ai 0 12 pat)) : ∀ (n : Nat) (k : Int), (0 ≤ k) → (k ≤ 12) → ((12 - k).toNat) < n → AW zX4_punch Eq (rmd d) 0 0 0 0 13 [(1, vi k), (0, vr 29)] [] (h.set 31 (ai 0 12 (mix (fun j => tof (sg j)) pat k.toNat))) (fun v u => v = some (hol (mix (fun j => tof (sg j)) pat 12) 12 : Int) ∧ u = (h.set 31 (ai 0 12 (mix (fun j => tof (sg j)) pat 12))).set 29 (ao 4 (mo 0 rf gm ka wr9))) := by
  intro n
  induction n with
  | zero =>
    intro k h0 h1 hn
    exact absurd hn (Nat.not_lt_zero _)
  | succ n ih =>
    intro k h0 h1 hn
    refine AW.go 2 (pc' := 16) rfl ?_
    refine AW.bi (tgt := 40) (pn := 19) rfl (by decide) rfl (by first | exact bI_rng _ | exact ⟨by omega, by omega⟩) (by first | exact bI_rng _ | exact ⟨by omega, by omega⟩) (fun c16 => ?_) (fun c16 => ?_)
    · dsimp only [cmpI] at c16
      rw [show k.toNat = 12 by omega]
      refine AW.go 2 (pc' := 42) rfl ?_
      refine AW.putf (pn := 45) rfl rfl flX4_52 (by first | assumption | exact set_self (by first | assumption | exact set_self (by first | assumption | exact set_self (by assumption) | exact set_ne (by first | assumption | decide | omega) (by assumption)) | exact set_ne (by first | assumption | decide | omega) (by first | assumption | exact set_self (by assumption) | exact set_ne (by first | assumption | decide | omega) (by assumption))) | exact set_ne (by first | assumption | decide | omega) (by first | assumption | exact set_self (by first | assumption | exact set_self (by assumption) | exact set_ne (by first | assumption | decide | omega) (by assumption)) | exact set_ne (by first | assumption | decide | omega) (by first | assumption | exact set_self (by assumption) | exact set_ne (by first | assumption | decide | omega) (by assumption)))) rfl (by first | trivial | exact bI_01 _ | exact Or.inl rfl | exact Or.inr rfl) ?_
      refine AW.go 1 (pc' := 46) rfl ?_
      have hpm : pn (mix (fun j => tof (sg j)) pat 12) := fun j hj => by rw [mix_in hj]; exact tof_b _
      refine AW.callVF (pn := 49) rfl rfl mlX4_83 (by first | assumption | exact set_self (by first | assumption | exact set_self (by first | assumption | exact set_self (by assumption) | exact set_ne (by first | assumption | decide | omega) (by assumption)) | exact set_ne (by first | assumption | decide | omega) (by first | assumption | exact set_self (by assumption) | exact set_ne (by first | assumption | decide | omega) (by assumption))) | exact set_ne (by first | assumption | decide | omega) (by first | assumption | exact set_self (by first | assumption | exact set_self (by assumption) | exact set_ne (by first | assumption | decide | omega) (by assumption)) | exact set_ne (by first | assumption | decide | omega) (by first | assumption | exact set_self (by assumption) | exact set_ne (by first | assumption | decide | omega) (by assumption)))) (c_X4_holesNow (d - 1) (by omega) _ _ _ _ _ _ (by first | assumption | exact set_self (by first | assumption | exact set_self (by first | assumption | exact set_self (by assumption) | exact set_ne (by first | assumption | decide | omega) (by assumption)) | exact set_ne (by first | assumption | decide | omega) (by first | assumption | exact set_self (by assumption) | exact set_ne (by first | assumption | decide | omega) (by assumption))) | exact set_ne (by first | assumption | decide | omega) (by first | assumption | exact set_self (by first | assumption | exact set_self (by assumption) | exact set_ne (by first | assumption | decide | omega) (by assumption)) | exact set_ne (by first | assumption | decide | omega) (by first | assumption | exact set_self (by assumption) | exact set_ne (by first | assumption | decide | omega) (by assumption)))) _ (by first | assumption | exact set_self (by first | assumption | exact set_self (by first | assumption | exact set_self (by assumption) | exact set_ne (by first | assumption | decide | omega) (by assumption)) | exact set_ne (by first | assumption | decide | omega) (by first | assumption | exact set_self (by assumption) | exact set_ne (by first | assumption | decide | omega) (by assumption))) | exact set_ne (by first | assumption | decide | omega) (by first | assumption | exact set_self (by first | assumption | exact set_self (by assumption) | exact set_ne (by first | assumption | decide | omega) (by assumption)) | exact set_ne (by first | assumption | decide | omega) (by first | assumption | exact set_self (by assumption) | exact set_ne (by first | assumption | decide | omega) (by assumption)))) hpm) rfl rfl (Nat.le_of_ble_eq_true rfl) ⟨by show d - 1 + 1 ≤ d; omega, by show 40 * (d - 1 + 1) ≤ 40 * d; omega⟩ ⟨Nat.zero_le _, Nat.zero_le _⟩ ?_
      refine AW.ret rfl rfl (Nat.le_refl _) (Nat.le_refl _) ?_
      exact ⟨rfl, rfl⟩
    · dsimp only [cmpI] at c16
      refine AW.go 1 (pc' := 20) rfl ?_
      refine AW.getf (pn := 23) rfl rfl flX4_13 (by first | assumption | exact set_self (by first | assumption | exact set_self (by first | assumption | exact set_self (by assumption) | exact set_ne (by first | assumption | decide | omega) (by assumption)) | exact set_ne (by first | assumption | decide | omega) (by first | assumption | exact set_self (by assumption) | exact set_ne (by first | assumption | decide | omega) (by assumption))) | exact set_ne (by first | assumption | decide | omega) (by first | assumption | exact set_self (by first | assumption | exact set_self (by assumption) | exact set_ne (by first | assumption | decide | omega) (by assumption)) | exact set_ne (by first | assumption | decide | omega) (by first | assumption | exact set_self (by assumption) | exact set_ne (by first | assumption | decide | omega) (by assumption)))) rfl ?_
      refine AW.go 2 (pc' := 25) rfl ?_
      refine AW.getf (pn := 28) rfl rfl flX4_16 (by first | assumption | exact set_self (by first | assumption | exact set_self (by first | assumption | exact set_self (by assumption) | exact set_ne (by first | assumption | decide | omega) (by assumption)) | exact set_ne (by first | assumption | decide | omega) (by first | assumption | exact set_self (by assumption) | exact set_ne (by first | assumption | decide | omega) (by assumption))) | exact set_ne (by first | assumption | decide | omega) (by first | assumption | exact set_self (by first | assumption | exact set_self (by assumption) | exact set_ne (by first | assumption | decide | omega) (by assumption)) | exact set_ne (by first | assumption | decide | omega) (by first | assumption | exact set_self (by assumption) | exact set_ne (by first | assumption | decide | omega) (by assumption)))) rfl ?_
      refine AW.go 1 (pc' := 29) rfl ?_
      refine AW.iald (pn := 30) rfl rfl (by first | assumption | exact set_self (by first | assumption | exact set_self (by first | assumption | exact set_self (by assumption) | exact set_ne (by first | assumption | decide | omega) (by assumption)) | exact set_ne (by first | assumption | decide | omega) (by first | assumption | exact set_self (by assumption) | exact set_ne (by first | assumption | decide | omega) (by assumption))) | exact set_ne (by first | assumption | decide | omega) (by first | assumption | exact set_self (by first | assumption | exact set_self (by assumption) | exact set_ne (by first | assumption | decide | omega) (by assumption)) | exact set_ne (by first | assumption | decide | omega) (by first | assumption | exact set_self (by assumption) | exact set_ne (by first | assumption | decide | omega) (by assumption)))) (by decide) (by omega) (by omega) ?_
      have g1 := hs k.toNat (by omega)
      refine AW.callSF (pn := 33) rfl rfl mlX4_60 (c_X4_toneOf (d - 1) (by omega) _ _ (by omega)) rfl rfl (Nat.le_of_ble_eq_true rfl) ⟨by show d - 1 + 1 ≤ d; omega, by show 40 * (d - 1 + 1) ≤ 40 * d; omega⟩ ⟨Nat.zero_le _, Nat.zero_le _⟩ ?_
      refine AW.iast (pn := 34) rfl rfl (by first | assumption | exact set_self (by first | assumption | exact set_self (by first | assumption | exact set_self (by assumption) | exact set_ne (by first | assumption | decide | omega) (by assumption)) | exact set_ne (by first | assumption | decide | omega) (by first | assumption | exact set_self (by assumption) | exact set_ne (by first | assumption | decide | omega) (by assumption))) | exact set_ne (by first | assumption | decide | omega) (by first | assumption | exact set_self (by first | assumption | exact set_self (by assumption) | exact set_ne (by first | assumption | decide | omega) (by assumption)) | exact set_ne (by first | assumption | decide | omega) (by first | assumption | exact set_self (by assumption) | exact set_ne (by first | assumption | decide | omega) (by assumption)))) (by decide) (by omega) (by omega) ?_
      refine AW.go 2 (pc' := 13) rfl ?_
      rw [List.set_set, show tof (sg k.toNat) = (fun j => tof (sg j)) k.toNat from rfl, mix_s, ← k1 h0]
      refine AW.lw ?_ (ih (k + 1) (by omega) (by omega) (by omega))
      exact (And.intro rfl (And.intro rfl trivial))
set_option maxHeartbeats 2000000 in
theorem c_X4_punch (d : Nat) (hd : 3 ≤ d) (h : List AC) (pm rf gm ka wr9 : Int) (hO : h[29]? = some (ao 4 (mo pm rf gm ka wr9))) (rc : 0 ≤ pm ∧ pm ≤ 20) (sg : Nat → Int) (hP : h[32]? = some (ai 0 20 sg)) (hs : sn sg) (pat : Nat → Int) (hT : h[31]? = some (ai 0 12 pat)) : M0 zX4_punch d [vr 29] h (fun v u => (v = some (if rft (sga sg pm) pm 1 12 0 0 = -6 then (hol (mix (fun j => tof (sg j)) pat 12) 12 : Int) else -5)) ∧ u = if rft (sga sg pm) pm 1 12 0 0 = -6 then (h.set 31 (ai 0 12 (mix (fun j => tof (sg j)) pat 12))).set 29 (ao 4 (mo 0 rf gm ka wr9)) else h) := by
  refine M0.of okX4_punch (Nat.le_of_ble_eq_true rfl) ?_
  refine AW.go 2 (pc' := 2) rfl ?_
  refine AW.callVF (pn := 5) rfl rfl mlX4_71 (by first | assumption | exact set_self (by first | assumption | exact set_self (by first | assumption | exact set_self (by assumption) | exact set_ne (by first | assumption | decide | omega) (by assumption)) | exact set_ne (by first | assumption | decide | omega) (by first | assumption | exact set_self (by assumption) | exact set_ne (by first | assumption | decide | omega) (by assumption))) | exact set_ne (by first | assumption | decide | omega) (by first | assumption | exact set_self (by first | assumption | exact set_self (by assumption) | exact set_ne (by first | assumption | decide | omega) (by assumption)) | exact set_ne (by first | assumption | decide | omega) (by first | assumption | exact set_self (by assumption) | exact set_ne (by first | assumption | decide | omega) (by assumption)))) (c_X4_faultOfTones (d - 1) (by omega) _ _ _ _ _ _ (by first | assumption | exact set_self (by first | assumption | exact set_self (by first | assumption | exact set_self (by assumption) | exact set_ne (by first | assumption | decide | omega) (by assumption)) | exact set_ne (by first | assumption | decide | omega) (by first | assumption | exact set_self (by assumption) | exact set_ne (by first | assumption | decide | omega) (by assumption))) | exact set_ne (by first | assumption | decide | omega) (by first | assumption | exact set_self (by first | assumption | exact set_self (by assumption) | exact set_ne (by first | assumption | decide | omega) (by assumption)) | exact set_ne (by first | assumption | decide | omega) (by first | assumption | exact set_self (by assumption) | exact set_ne (by first | assumption | decide | omega) (by assumption)))) (by omega) _ (by first | assumption | exact set_self (by first | assumption | exact set_self (by first | assumption | exact set_self (by assumption) | exact set_ne (by first | assumption | decide | omega) (by assumption)) | exact set_ne (by first | assumption | decide | omega) (by first | assumption | exact set_self (by assumption) | exact set_ne (by first | assumption | decide | omega) (by assumption))) | exact set_ne (by first | assumption | decide | omega) (by first | assumption | exact set_self (by first | assumption | exact set_self (by assumption) | exact set_ne (by first | assumption | decide | omega) (by assumption)) | exact set_ne (by first | assumption | decide | omega) (by first | assumption | exact set_self (by assumption) | exact set_ne (by first | assumption | decide | omega) (by assumption)))) (by assumption) _ (by omega)) rfl rfl (Nat.le_of_ble_eq_true rfl) ⟨by show d - 1 + 1 ≤ d; omega, by show 40 * (d - 1 + 1) ≤ 40 * d; omega⟩ ⟨Nat.zero_le _, Nat.zero_le _⟩ ?_
  have b0 := rft_b (sga sg pm) pm 1 12 0 0 (by omega) (by omega)
  have b1 : rft (sga sg pm) pm 1 12 0 0 = -6 ∨ 0 ≤ rft (sga sg pm) pm 1 12 0 0 := rft_n (sga sg pm) pm 1 12 0 0 (by omega)
  refine AW.br (tgt := 11) (pn := 8) rfl (by decide) rfl (by first | exact bI_rng _ | exact ⟨by omega, by omega⟩) (fun c5 => ?_) (fun c5 => ?_)
  · dsimp only [cmpI] at c5
    refine AW.go 2 (pc' := 13) rfl ?_
    have e := l_X4_punch d (by omega) h pm rf gm ka wr9 hO rc sg hP hs pat hT _ 0 (by omega) (by omega) (Nat.lt_succ_self _)
    rw [show (0 : Int).toNat = 0 from rfl, mix_0, set_same hT] at e
    refine AW.lw ?_ (AW.post e (fun v u hq => by rw [if_pos (by omega), if_pos (by omega)]; exact hq))
    exact (And.intro rfl (And.intro rfl trivial))
  · dsimp only [cmpI] at c5
    refine AW.go 1 (pc' := 10) rfl ?_
    refine AW.ret rfl rfl (Nat.le_refl _) (Nat.le_refl _) ?_
    refine ⟨congrArg some ?_, ?_⟩
    · (repeat' split) <;> first | rfl | omega
    · first | rw [if_pos (by omega)] | rw [if_neg (by omega)]
