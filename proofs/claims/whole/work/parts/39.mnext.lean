theorem mu_lt {S : Nat → Nat} (hS : ∀ F, S F < 4096) {L : List Nat} {b : Nat} (hb : b < 4096) {c : Nat → Int} : ∀ D, mu S L b c D < 4096
  | 0 => hb
  | D + 1 => Nat.or_lt_two_pow (n := 12) (mu_lt hS hb D) (hS _)

set_option maxHeartbeats 4000000 in
theorem l_X4_fits (d : Nat) (hd : 2 ≤ d) (h : List AC) (hl : 37 ≤ h.length) (pm rf ka wr : Int) (m : Nat → Int) (hM : h[30]? = some (ai 0 48 m)) (hm : mt m) (r : Int) (rr : 0 ≤ r ∧ r < 4) (f : Nat → Int) (hf : f = rwm m r) (g : Nat) (hg : g = 3 ∨ g = 4) (L : List Nat) (hL : L.length ≤ 48) (GF GS : Nat → Int) (hS : SM f g GF GS L) (c : Nat → Int) (E : Nat) (hE : E ≤ 2) (hc : ∀ j, j ≤ E → 0 ≤ c j ∧ c j < (L.length : Int)) : ∀ (n : Nat) (k : Int), (0 ≤ k) → (k ≤ (E : Int)) → (((E : Int) - k).toNat) < n → AW zX4_fits Eq (rmd d) 0 0 0 0 11 [(5, vi k), (4, vi (mu (sS f g) L (fs0 f g) c k.toNat : Int)), (0, vr 29), (1, vi r), (2, vi (g : Int)), (3, vi (E : Int))] [] (HM h pm rf (L.length : Int) ka wr GF GS c) (RQ (bI (sS f g (L.getD (c E).toNat 0) &&& mu (sS f g) L (fs0 f g) c E = 0)) (HM h pm rf (L.length : Int) ka wr GF GS c)) := by
  intro n
  induction n with
  | zero =>
    intro k h0 h1 hn
    exact absurd hn (Nat.not_lt_zero _)
  | succ n ih =>
    intro k h0 h1 hn
    refine AW.go 2 (pc' := 14) rfl ?_
    refine AW.bi (tgt := 40) (pn := 17) rfl (by decide) rfl (by first | exact bI_rng _ | exact ⟨by omega, by omega⟩) (by first | exact bI_rng _ | exact ⟨by omega, by omega⟩) (fun c14 => ?_) (fun c14 => ?_)
    · dsimp only [cmpI] at c14
      refine AW.go 2 (pc' := 43) rfl ?_
      refine AW.getf (pn := 46) rfl rfl flX4_25 (by first | assumption | exact HM_29 hl | exact HM_34 hl | exact HM_35 hl | exact HM_36 hl | exact (HM_ne (by first | decide | omega) (by first | decide | omega) (by first | decide | omega) (by first | decide | omega)).trans (by assumption)) rfl ?_
      refine AW.go 1 (pc' := 47) rfl ?_
      refine AW.getf (pn := 50) rfl rfl flX4_28 (by first | assumption | exact HM_29 hl | exact HM_34 hl | exact HM_35 hl | exact HM_36 hl | exact (HM_ne (by first | decide | omega) (by first | decide | omega) (by first | decide | omega) (by first | decide | omega)).trans (by assumption)) rfl ?_
      refine AW.go 1 (pc' := 51) rfl ?_
      
      refine AW.iald (pn := 52) rfl rfl (by first | assumption | exact HM_29 hl | exact HM_34 hl | exact HM_35 hl | exact HM_36 hl | exact (HM_ne (by first | decide | omega) (by first | decide | omega) (by first | decide | omega) (by first | decide | omega)).trans (by assumption)) (by first | decide | omega) (by omega) (by omega) ?_
      have c1 := hc E (Nat.le_refl _)
      rw [Int.toNat_natCast]
      refine AW.iald (pn := 53) rfl rfl (by first | assumption | exact HM_29 hl | exact HM_34 hl | exact HM_35 hl | exact HM_36 hl | exact (HM_ne (by first | decide | omega) (by first | decide | omega) (by first | decide | omega) (by first | decide | omega)).trans (by assumption)) (by first | decide | omega) (by omega) (by omega) ?_
      rw [(hS (c E).toNat (by omega)).2]
      have hfb := fs0_lt (f := f) (by subst hf; exact rwm_tn hm rr) g (by omega)
      have q1 := mu_lt (sS_lt f g) (L := L) hfb (c := c) k.toNat
      have q2 : mu (sS f g) L (fs0 f g) c k.toNat &&& sS f g (L.getD (c E).toNat 0) ≤ mu (sS f g) L (fs0 f g) c k.toNat := Nat.and_le_left
      refine AW.andN (pn := 54) rfl rfl ?_
      refine AW.br (tgt := 61) (pn := 57) rfl (by decide) rfl (by first | exact bI_rng _ | exact ⟨by omega, by omega⟩) (fun c54 => ?_) (fun c54 => ?_)
      · dsimp only [cmpI] at c54
        refine AW.go 1 (pc' := 62) rfl ?_
        refine AW.retz rfl rfl (by first | exact bI_01 _ | decide) (Nat.le_refl _) (Nat.le_refl _) ?_
        refine ⟨congrArg some ?_, rfl⟩
        have e1 : k.toNat = E := by omega
        rw [e1, Nat.and_comm] at c54
        first
          | (rw [bI_t (by omega)]; done)
          | (rw [bI_f (by omega)]; done)
      · dsimp only [cmpI] at c54
        refine AW.go 2 (pc' := 62) rfl ?_
        refine AW.retz rfl rfl (by first | exact bI_01 _ | decide) (Nat.le_refl _) (Nat.le_refl _) ?_
        refine ⟨congrArg some ?_, rfl⟩
        have e1 : k.toNat = E := by omega
        rw [e1, Nat.and_comm] at c54
        first
          | (rw [bI_t (by omega)]; done)
          | (rw [bI_f (by omega)]; done)
    · dsimp only [cmpI] at c14
      refine AW.go 2 (pc' := 20) rfl ?_
      refine AW.getf (pn := 23) rfl rfl flX4_25 (by first | assumption | exact HM_29 hl | exact HM_34 hl | exact HM_35 hl | exact HM_36 hl | exact (HM_ne (by first | decide | omega) (by first | decide | omega) (by first | decide | omega) (by first | decide | omega)).trans (by assumption)) rfl ?_
      refine AW.go 1 (pc' := 24) rfl ?_
      refine AW.getf (pn := 27) rfl rfl flX4_28 (by first | assumption | exact HM_29 hl | exact HM_34 hl | exact HM_35 hl | exact HM_36 hl | exact (HM_ne (by first | decide | omega) (by first | decide | omega) (by first | decide | omega) (by first | decide | omega)).trans (by assumption)) rfl ?_
      refine AW.go 1 (pc' := 29) rfl ?_
      refine AW.iald (pn := 30) rfl rfl (by first | assumption | exact HM_29 hl | exact HM_34 hl | exact HM_35 hl | exact HM_36 hl | exact (HM_ne (by first | decide | omega) (by first | decide | omega) (by first | decide | omega) (by first | decide | omega)).trans (by assumption)) (by first | decide | omega) (by omega) (by omega) ?_
      have c1 := hc k.toNat (by omega)
      refine AW.iald (pn := 31) rfl rfl (by first | assumption | exact HM_29 hl | exact HM_34 hl | exact HM_35 hl | exact HM_36 hl | exact (HM_ne (by first | decide | omega) (by first | decide | omega) (by first | decide | omega) (by first | decide | omega)).trans (by assumption)) (by first | decide | omega) (by omega) (by omega) ?_
      rw [(hS (c k.toNat).toNat (by omega)).2]
      first | refine AW.orN (pn := 32) rfl rfl ?_ | refine AW.orN (y := 0) (pn := 32) rfl rfl ?_
      refine AW.go 3 (pc' := 11) rfl ?_
      rw [show mu (sS f g) L (fs0 f g) c k.toNat ||| sS f g (L.getD (c k.toNat).toNat 0) = mu (sS f g) L (fs0 f g) c (k + 1).toNat by rw [k1 h0]; rfl]
      refine AW.lw ?_ (ih (k + 1) (by omega) (by omega) (by omega))
      exact (And.intro rfl (And.intro rfl (And.intro rfl (And.intro rfl (And.intro rfl (And.intro rfl trivial))))))
set_option maxHeartbeats 2000000 in
theorem c_X4_fits (d : Nat) (hd : 2 ≤ d) (h : List AC) (hl : 37 ≤ h.length) (pm rf ka wr : Int) (m : Nat → Int) (hM : h[30]? = some (ai 0 48 m)) (hm : mt m) (r : Int) (rr : 0 ≤ r ∧ r < 4) (f : Nat → Int) (hf : f = rwm m r) (g : Nat) (hg : g = 3 ∨ g = 4) (L : List Nat) (hL : L.length ≤ 48) (GF GS : Nat → Int) (hS : SM f g GF GS L) (c : Nat → Int) (E : Nat) (hE : E ≤ 2) (hc : ∀ j, j ≤ E → 0 ≤ c j ∧ c j < (L.length : Int)) : MF zX4_fits d [vr 29, vi r, vi (g : Int), vi (E : Int)] (HM h pm rf (L.length : Int) ka wr GF GS c) (bI (sS f g (L.getD (c E).toNat 0) &&& mu (sS f g) L (fs0 f g) c E = 0)) (HM h pm rf (L.length : Int) ka wr GF GS c) := by
  refine M0.of okX4_fits (Nat.le_of_ble_eq_true rfl) ?_
  refine AW.go 3 (pc' := 3) rfl ?_
  refine AW.callVF (pn := 6) rfl rfl mlX4_153 (by first | assumption | exact HM_29 hl | exact HM_34 hl | exact HM_35 hl | exact HM_36 hl | exact (HM_ne (by first | decide | omega) (by first | decide | omega) (by first | decide | omega) (by first | decide | omega)).trans (by assumption)) (c_X4_firstSet (d - 1) (by omega) _ _ _ _ _ _ (HM_29 hl) m ((HM_ne (by decide) (by decide) (by decide) (by decide)).trans hM) hm _ _ (by omega) (by omega)) rfl rfl (Nat.le_of_ble_eq_true rfl) ⟨by show d - 1 + 1 ≤ d; omega, by show 40 * (d - 1 + 1) ≤ 40 * d; omega⟩ ⟨Nat.zero_le _, Nat.zero_le _⟩ ?_
  rw [← hf, Int.toNat_natCast]
  refine AW.go 3 (pc' := 11) rfl ?_
  refine AW.lw ?_ (l_X4_fits d hd h hl pm rf ka wr m hM hm r rr f hf g hg L hL GF GS hS c E hE hc _ 0 (by omega) (by omega) (Nat.lt_succ_self _))
  exact (And.intro rfl (And.intro rfl (And.intro rfl (And.intro rfl (And.intro rfl (And.intro rfl trivial))))))
set_option maxHeartbeats 2000000 in
theorem x_X4_isNext (d : Nat) (h : List AC) (hl : 37 ≤ h.length) (pm rf ka wr : Int) (m : Nat → Int) (hM : h[30]? = some (ai 0 48 m)) (hm : mt m) (r : Int) (rr : 0 ≤ r ∧ r < 4) (f : Nat → Int) (hf : f = rwm m r) (g : Nat) (hg : g = 3 ∨ g = 4) (L : List Nat) (hL : L.length ≤ 48) (GF GS : Nat → Int) (hS : SM f g GF GS L) (q : Nat) (rq : 1 ≤ q ∧ q ≤ 2) (R9 : List (List Nat)) (c : Nat → Int) (hc : ∀ j, j ≤ q → 0 ≤ c j ∧ c j < (L.length : Int)) (hR : R9 = pr L c (q + 1) :: rm (sS f g) L (fs0 f g) q c (q + 1)) : AW zX4_isNext Eq (rmd d) 0 0 0 0 3 [(4, vi ((q : Int) + 1)), (0, vr 29), (1, vi r), (2, vi (g : Int)), (3, vi (q : Int))] [] (HM h pm rf (L.length : Int) ka wr GF GS c) (fun v u => ∃ c9 : Nat → Int, u = (HM h pm rf (L.length : Int) ka wr GF GS c9) ∧ ((v = some 0 ∧ R9 = []) ∨ (v = some 1 ∧ (∀ j, j ≤ q → 0 ≤ c9 j ∧ c9 j < (L.length : Int)) ∧ R9 = pr L c9 (q + 1) :: rm (sS f g) L (fs0 f g) q c9 (q + 1)))) := by
  refine AW.go 1 (pc' := 5) rfl ?_
  refine AW.br (tgt := 78) (pn := 8) rfl (by decide) rfl (by first | exact bI_rng _ | exact ⟨by omega, by omega⟩) (fun c5 => ?_) (fun c5 => ?_)
  · dsimp only [cmpI] at c5
    exfalso; omega
  · dsimp only [cmpI] at c5
    refine AW.go 4 (pc' := 13) rfl ?_
    refine AW.bi (tgt := 78) (pn := 16) rfl (by decide) rfl (by first | exact bI_rng _ | exact ⟨by omega, by omega⟩) (by first | exact bI_rng _ | exact ⟨by omega, by omega⟩) (fun c13 => ?_) (fun c13 => ?_)
    · dsimp only [cmpI] at c13
      refine AW.go 2 (pc' := 81) rfl ?_
      refine AW.bi (tgt := 88) (pn := 84) rfl (by decide) rfl (by first | exact bI_rng _ | exact ⟨by omega, by omega⟩) (by first | exact bI_rng _ | exact ⟨by omega, by omega⟩) (fun c81 => ?_) (fun c81 => ?_)
      · dsimp only [cmpI] at c81
        exfalso; omega
      · dsimp only [cmpI] at c81
        refine AW.go 2 (pc' := 89) rfl ?_
        refine AW.retz rfl rfl (by first | exact bI_01 _ | decide) (Nat.le_refl _) (Nat.le_refl _) ?_
        first
          | (exfalso; omega)
          | exact ⟨c, rfl, Or.inr ⟨rfl, hc, hR⟩⟩
    · dsimp only [cmpI] at c13
      exfalso; omega
set_option maxHeartbeats 4000000 in
theorem d_X4_isNext (d : Nat) (hd : 3 ≤ d) (h : List AC) (hl : 37 ≤ h.length) (pm rf ka wr : Int) (m : Nat → Int) (hM : h[30]? = some (ai 0 48 m)) (hm : mt m) (r : Int) (rr : 0 ≤ r ∧ r < 4) (f : Nat → Int) (hf : f = rwm m r) (g : Nat) (hg : g = 3 ∨ g = 4) (L : List Nat) (hL : L.length ≤ 48) (GF GS : Nat → Int) (hS : SM f g GF GS L) (q : Nat) (rq : 1 ≤ q ∧ q ≤ 2) (R9 : List (List Nat)) : ∀ (n : Nat) (k : Int) (D : Nat) (c : Nat → Int), (k = (D : Int) - 1) → (D ≤ q + 1) → (∀ j, j + 1 < D → 0 ≤ c j ∧ c j < (L.length : Int)) → (1 ≤ D → -1 ≤ c (D - 1) ∧ c (D - 1) < (L.length : Int)) → (R9 = rm (sS f g) L (fs0 f g) q c D) → (msr L.length c D) < n → AW zX4_isNext Eq (rmd d) 0 0 0 0 3 [(4, vi k), (0, vr 29), (1, vi r), (2, vi (g : Int)), (3, vi (q : Int))] [] (HM h pm rf (L.length : Int) ka wr GF GS c) (fun v u => ∃ c9 : Nat → Int, u = (HM h pm rf (L.length : Int) ka wr GF GS c9) ∧ ((v = some 0 ∧ R9 = []) ∨ (v = some 1 ∧ (∀ j, j ≤ q → 0 ≤ c9 j ∧ c9 j < (L.length : Int)) ∧ R9 = pr L c9 (q + 1) :: rm (sS f g) L (fs0 f g) q c9 (q + 1)))) := by
  intro n
  induction n with
  | zero =>
    intro k D c hk hD hc hl9 hR hn
    exact absurd hn (Nat.not_lt_zero _)
  | succ n ih =>
    intro k D c hk hD hc hl9 hR hn
    refine AW.go 1 (pc' := 5) rfl ?_
    refine AW.br (tgt := 78) (pn := 8) rfl (by decide) rfl (by first | exact bI_rng _ | exact ⟨by omega, by omega⟩) (fun c5 => ?_) (fun c5 => ?_)
    · dsimp only [cmpI] at c5
      refine AW.go 2 (pc' := 81) rfl ?_
      refine AW.bi (tgt := 88) (pn := 84) rfl (by decide) rfl (by first | exact bI_rng _ | exact ⟨by omega, by omega⟩) (by first | exact bI_rng _ | exact ⟨by omega, by omega⟩) (fun c81 => ?_) (fun c81 => ?_)
      · dsimp only [cmpI] at c81
        refine AW.go 1 (pc' := 89) rfl ?_
        refine AW.retz rfl rfl (by first | exact bI_01 _ | decide) (Nat.le_refl _) (Nat.le_refl _) ?_
        first
          | (exfalso; omega)
          | (have : D = 0 := by omega
             subst this
             exact ⟨c, rfl, Or.inl ⟨rfl, hR⟩⟩)
      · dsimp only [cmpI] at c81
        exfalso; omega
    · dsimp only [cmpI] at c5
      refine AW.go 4 (pc' := 13) rfl ?_
      refine AW.bi (tgt := 78) (pn := 16) rfl (by decide) rfl (by first | exact bI_rng _ | exact ⟨by omega, by omega⟩) (by first | exact bI_rng _ | exact ⟨by omega, by omega⟩) (fun c13 => ?_) (fun c13 => ?_)
      · dsimp only [cmpI] at c13
        exfalso; omega
      · dsimp only [cmpI] at c13
        refine AW.go 1 (pc' := 17) rfl ?_
        obtain ⟨E, rfl⟩ : ∃ E, D = E + 1 := ⟨D - 1, by omega⟩
        have hk2 : k = (E : Int) := by omega
        subst hk2
        have hcE := hl9 (by omega)
        rw [show E + 1 - 1 = E by omega] at hcE
        refine AW.getf (pn := 20) rfl rfl flX4_28 (by first | assumption | exact HM_29 hl | exact HM_34 hl | exact HM_35 hl | exact HM_36 hl | exact (HM_ne (by first | decide | omega) (by first | decide | omega) (by first | decide | omega) (by first | decide | omega)).trans (by assumption)) rfl ?_
        refine AW.go 2 (pc' := 23) rfl ?_
        refine AW.iald (pn := 24) rfl rfl (by first | assumption | exact HM_29 hl | exact HM_34 hl | exact HM_35 hl | exact HM_36 hl | exact (HM_ne (by first | decide | omega) (by first | decide | omega) (by first | decide | omega) (by first | decide | omega)).trans (by assumption)) (by first | decide | omega) (by omega) (by omega) ?_
        rw [Int.toNat_natCast]
        refine AW.go 2 (pc' := 26) rfl ?_
        refine AW.iast (pn := 27) rfl rfl (by first | assumption | exact HM_29 hl | exact HM_34 hl | exact HM_35 hl | exact HM_36 hl | exact (HM_ne (by first | decide | omega) (by first | decide | omega) (by first | decide | omega) (by first | decide | omega)).trans (by assumption)) (by first | decide | omega) (by omega) (by omega) ?_
        refine AW.go 1 (pc' := 28) rfl ?_
        refine AW.hp HM_s36 ?_
        refine AW.getf (pn := 31) rfl rfl flX4_28 (by first | assumption | exact HM_29 hl | exact HM_34 hl | exact HM_35 hl | exact HM_36 hl | exact (HM_ne (by first | decide | omega) (by first | decide | omega) (by first | decide | omega) (by first | decide | omega)).trans (by assumption)) rfl ?_
        refine AW.go 1 (pc' := 33) rfl ?_
        refine AW.iald (pn := 34) rfl rfl (by first | assumption | exact HM_29 hl | exact HM_34 hl | exact HM_35 hl | exact HM_36 hl | exact (HM_ne (by first | decide | omega) (by first | decide | omega) (by first | decide | omega) (by first | decide | omega)).trans (by assumption)) (by first | decide | omega) (by omega) (by omega) ?_
        rw [Int.toNat_natCast, up_at]
        refine AW.go 1 (pc' := 35) rfl ?_
        refine AW.getf (pn := 38) rfl rfl flX4_144 (by first | assumption | exact HM_29 hl | exact HM_34 hl | exact HM_35 hl | exact HM_36 hl | exact (HM_ne (by first | decide | omega) (by first | decide | omega) (by first | decide | omega) (by first | decide | omega)).trans (by assumption)) rfl ?_
        refine AW.bi (tgt := 47) (pn := 41) rfl (by decide) rfl (by first | exact bI_rng _ | exact ⟨by omega, by omega⟩) (by first | exact bI_rng _ | exact ⟨by omega, by omega⟩) (fun c38 => ?_) (fun c38 => ?_)
        · dsimp only [cmpI] at c38
          refine AW.go 4 (pc' := 52) rfl ?_
          refine AW.callVF (pn := 55) rfl rfl mlX4_150 (by first | assumption | exact HM_29 hl | exact HM_34 hl | exact HM_35 hl | exact HM_36 hl | exact (HM_ne (by first | decide | omega) (by first | decide | omega) (by first | decide | omega) (by first | decide | omega)).trans (by assumption)) (c_X4_fits (d - 1) (by omega) h hl pm rf ka wr m hM hm r rr f hf g hg L hL GF GS hS (up c E (c E + 1)) E (by omega) (fun j hj => by unfold up; split <;> first | omega | exact hc j (by omega))) rfl rfl (Nat.le_of_ble_eq_true rfl) ⟨by show d - 1 + 1 ≤ d; omega, by show 40 * (d - 1 + 1) ≤ 40 * d; omega⟩ ⟨Nat.zero_le _, Nat.zero_le _⟩ ?_
          refine AW.bz (tgt := 3) (pn := 58) rfl (by decide) rfl (fun c55 => ?_) (fun c55 => ?_)
          · first
              | (-- none left here
                 have e1 : c E + 1 = (L.length : Int) := by omega
                 rw [rm_end (by omega)] at hR
                 refine AW.lw ?_ (ih ((E : Int) + -1) E (up c E (c E + 1)) (by omega) (by omega) (fun j hj => ?_) (fun hj => ?_) ?_ ?_)
                 · exact (And.intro rfl (And.intro rfl (And.intro rfl (And.intro rfl (And.intro rfl trivial)))))
                 · rw [up_lt _ _ (by omega)]; exact hc j (by omega)
                 · rw [up_lt _ _ (by omega)]; have := hc (E - 1) (by omega); omega
                 · rw [hR]; exact rm_c (fun j hj => (up_lt _ _ hj).symm)
                 · have m1 := msr_pop (M := L.length) (c := c) (D := E) (by omega)
                   rw [msr_c (c := up c E (c E + 1)) (c' := c) (fun j hj => up_lt _ _ hj)]
                   omega)
              | (-- not this one
                 rw [up_at] at c55
                 rw [mu_c (c := up c E (c E + 1)) (c' := c) (fun j hj => up_lt _ _ hj)] at c55
                 rw [rm_no (by omega) (by omega) c55] at hR
                 refine AW.lw ?_ (ih (E : Int) (E + 1) (up c E (c E + 1)) (by omega) (by omega) (fun j hj => ?_) (fun hj => ?_) hR ?_)
                 · exact (And.intro rfl (And.intro rfl (And.intro rfl (And.intro rfl (And.intro rfl trivial)))))
                 · rw [up_lt _ _ (by omega)]; exact hc j (by omega)
                 · rw [show E + 1 - 1 = E by omega, up_at]; omega
                 · have m1 := msr_no (M := L.length) (c := c) (D := E) (by omega)
                   omega)
              | (-- one more, deeper
                 rw [up_at] at c55
                 rw [mu_c (c := up c E (c E + 1)) (c' := c) (fun j hj => up_lt _ _ hj)] at c55
                 rw [rm_in (by omega) (by omega) c55 (by omega)] at hR
                 refine AW.hp HM_s36 ?_
                 rw [show ((E : Int) + 1).toNat = E + 1 by omega]
                 refine AW.lw ?_ (ih ((E : Int) + 1) (E + 2) (up (up c E (c E + 1)) (E + 1) (-1)) (by omega) (by omega) (fun j hj => ?_) (fun hj => ?_) hR ?_)
                 · exact (And.intro rfl (And.intro rfl (And.intro rfl (And.intro rfl (And.intro rfl trivial)))))
                 · rw [up_lt _ _ (by omega)]
                   unfold up
                   split
                   · omega
                   · exact hc j (by omega)
                 · rw [show E + 2 - 1 = E + 1 by omega, up_at]; omega
                 · have m1 := msr_in (M := L.length) (c := c) (D := E) (by omega) hL (by omega)
                   omega)
              | (-- all are chosen
                 rw [up_at] at c55
                 rw [mu_c (c := up c E (c E + 1)) (c' := c) (fun j hj => up_lt _ _ hj)] at c55
                 have eq9 : E = q := by omega
                 subst eq9
                 rw [rm_hit (by omega) (by omega) c55] at hR
                 refine AW.lw ?_ (x_X4_isNext d h hl pm rf ka wr m hM hm r rr f hf g hg L hL GF GS hS E rq R9 (up c E (c E + 1)) (fun j hj => ?_) hR)
                 · exact (And.intro rfl (And.intro rfl (And.intro rfl (And.intro rfl (And.intro rfl trivial)))))
                 · unfold up
                   split
                   · omega
                   · exact hc j (by omega))
          · refine AW.go 3 (pc' := 64) rfl ?_
            refine AW.bi (tgt := 3) (pn := 67) rfl (by decide) rfl (by first | exact bI_rng _ | exact ⟨by omega, by omega⟩) (by first | exact bI_rng _ | exact ⟨by omega, by omega⟩) (fun c64 => ?_) (fun c64 => ?_)
            · dsimp only [cmpI] at c64
              first
                | (-- none left here
                   have e1 : c E + 1 = (L.length : Int) := by omega
                   rw [rm_end (by omega)] at hR
                   refine AW.lw ?_ (ih ((E : Int) + -1) E (up c E (c E + 1)) (by omega) (by omega) (fun j hj => ?_) (fun hj => ?_) ?_ ?_)
                   · exact (And.intro rfl (And.intro rfl (And.intro rfl (And.intro rfl (And.intro rfl trivial)))))
                   · rw [up_lt _ _ (by omega)]; exact hc j (by omega)
                   · rw [up_lt _ _ (by omega)]; have := hc (E - 1) (by omega); omega
                   · rw [hR]; exact rm_c (fun j hj => (up_lt _ _ hj).symm)
                   · have m1 := msr_pop (M := L.length) (c := c) (D := E) (by omega)
                     rw [msr_c (c := up c E (c E + 1)) (c' := c) (fun j hj => up_lt _ _ hj)]
                     omega)
                | (-- not this one
                   rw [up_at] at c55
                   rw [mu_c (c := up c E (c E + 1)) (c' := c) (fun j hj => up_lt _ _ hj)] at c55
                   rw [rm_no (by omega) (by omega) c55] at hR
                   refine AW.lw ?_ (ih (E : Int) (E + 1) (up c E (c E + 1)) (by omega) (by omega) (fun j hj => ?_) (fun hj => ?_) hR ?_)
                   · exact (And.intro rfl (And.intro rfl (And.intro rfl (And.intro rfl (And.intro rfl trivial)))))
                   · rw [up_lt _ _ (by omega)]; exact hc j (by omega)
                   · rw [show E + 1 - 1 = E by omega, up_at]; omega
                   · have m1 := msr_no (M := L.length) (c := c) (D := E) (by omega)
                     omega)
                | (-- one more, deeper
                   rw [up_at] at c55
                   rw [mu_c (c := up c E (c E + 1)) (c' := c) (fun j hj => up_lt _ _ hj)] at c55
                   rw [rm_in (by omega) (by omega) c55 (by omega)] at hR
                   refine AW.hp HM_s36 ?_
                   rw [show ((E : Int) + 1).toNat = E + 1 by omega]
                   refine AW.lw ?_ (ih ((E : Int) + 1) (E + 2) (up (up c E (c E + 1)) (E + 1) (-1)) (by omega) (by omega) (fun j hj => ?_) (fun hj => ?_) hR ?_)
                   · exact (And.intro rfl (And.intro rfl (And.intro rfl (And.intro rfl (And.intro rfl trivial)))))
                   · rw [up_lt _ _ (by omega)]
                     unfold up
                     split
                     · omega
                     · exact hc j (by omega)
                   · rw [show E + 2 - 1 = E + 1 by omega, up_at]; omega
                   · have m1 := msr_in (M := L.length) (c := c) (D := E) (by omega) hL (by omega)
                     omega)
                | (-- all are chosen
                   rw [up_at] at c55
                   rw [mu_c (c := up c E (c E + 1)) (c' := c) (fun j hj => up_lt _ _ hj)] at c55
                   have eq9 : E = q := by omega
                   subst eq9
                   rw [rm_hit (by omega) (by omega) c55] at hR
                   refine AW.lw ?_ (x_X4_isNext d h hl pm rf ka wr m hM hm r rr f hf g hg L hL GF GS hS E rq R9 (up c E (c E + 1)) (fun j hj => ?_) hR)
                   · exact (And.intro rfl (And.intro rfl (And.intro rfl (And.intro rfl (And.intro rfl trivial)))))
                   · unfold up
                     split
                     · omega
                     · exact hc j (by omega))
            · dsimp only [cmpI] at c64
              refine AW.go 1 (pc' := 68) rfl ?_
              refine AW.getf (pn := 71) rfl rfl flX4_28 (by first | assumption | exact HM_29 hl | exact HM_34 hl | exact HM_35 hl | exact HM_36 hl | exact (HM_ne (by first | decide | omega) (by first | decide | omega) (by first | decide | omega) (by first | decide | omega)).trans (by assumption)) rfl ?_
              refine AW.go 2 (pc' := 74) rfl ?_
              refine AW.iast (pn := 75) rfl rfl (by first | assumption | exact HM_29 hl | exact HM_34 hl | exact HM_35 hl | exact HM_36 hl | exact (HM_ne (by first | decide | omega) (by first | decide | omega) (by first | decide | omega) (by first | decide | omega)).trans (by assumption)) (by first | decide | omega) (by omega) (by omega) ?_
              refine AW.go 1 (pc' := 3) rfl ?_
              first
                | (-- none left here
                   have e1 : c E + 1 = (L.length : Int) := by omega
                   rw [rm_end (by omega)] at hR
                   refine AW.lw ?_ (ih ((E : Int) + -1) E (up c E (c E + 1)) (by omega) (by omega) (fun j hj => ?_) (fun hj => ?_) ?_ ?_)
                   · exact (And.intro rfl (And.intro rfl (And.intro rfl (And.intro rfl (And.intro rfl trivial)))))
                   · rw [up_lt _ _ (by omega)]; exact hc j (by omega)
                   · rw [up_lt _ _ (by omega)]; have := hc (E - 1) (by omega); omega
                   · rw [hR]; exact rm_c (fun j hj => (up_lt _ _ hj).symm)
                   · have m1 := msr_pop (M := L.length) (c := c) (D := E) (by omega)
                     rw [msr_c (c := up c E (c E + 1)) (c' := c) (fun j hj => up_lt _ _ hj)]
                     omega)
                | (-- not this one
                   rw [up_at] at c55
                   rw [mu_c (c := up c E (c E + 1)) (c' := c) (fun j hj => up_lt _ _ hj)] at c55
                   rw [rm_no (by omega) (by omega) c55] at hR
                   refine AW.lw ?_ (ih (E : Int) (E + 1) (up c E (c E + 1)) (by omega) (by omega) (fun j hj => ?_) (fun hj => ?_) hR ?_)
                   · exact (And.intro rfl (And.intro rfl (And.intro rfl (And.intro rfl (And.intro rfl trivial)))))
                   · rw [up_lt _ _ (by omega)]; exact hc j (by omega)
                   · rw [show E + 1 - 1 = E by omega, up_at]; omega
                   · have m1 := msr_no (M := L.length) (c := c) (D := E) (by omega)
                     omega)
                | (-- one more, deeper
                   rw [up_at] at c55
                   rw [mu_c (c := up c E (c E + 1)) (c' := c) (fun j hj => up_lt _ _ hj)] at c55
                   rw [rm_in (by omega) (by omega) c55 (by omega)] at hR
                   refine AW.hp HM_s36 ?_
                   rw [show ((E : Int) + 1).toNat = E + 1 by omega]
                   refine AW.lw ?_ (ih ((E : Int) + 1) (E + 2) (up (up c E (c E + 1)) (E + 1) (-1)) (by omega) (by omega) (fun j hj => ?_) (fun hj => ?_) hR ?_)
                   · exact (And.intro rfl (And.intro rfl (And.intro rfl (And.intro rfl (And.intro rfl trivial)))))
                   · rw [up_lt _ _ (by omega)]
                     unfold up
                     split
                     · omega
                     · exact hc j (by omega)
                   · rw [show E + 2 - 1 = E + 1 by omega, up_at]; omega
                   · have m1 := msr_in (M := L.length) (c := c) (D := E) (by omega) hL (by omega)
                     omega)
                | (-- all are chosen
                   rw [up_at] at c55
                   rw [mu_c (c := up c E (c E + 1)) (c' := c) (fun j hj => up_lt _ _ hj)] at c55
                   have eq9 : E = q := by omega
                   subst eq9
                   rw [rm_hit (by omega) (by omega) c55] at hR
                   refine AW.lw ?_ (x_X4_isNext d h hl pm rf ka wr m hM hm r rr f hf g hg L hL GF GS hS E rq R9 (up c E (c E + 1)) (fun j hj => ?_) hR)
                   · exact (And.intro rfl (And.intro rfl (And.intro rfl (And.intro rfl (And.intro rfl trivial)))))
                   · unfold up
                     split
                     · omega
                     · exact hc j (by omega))
        · dsimp only [cmpI] at c38
          refine AW.go 2 (pc' := 3) rfl ?_
          first
            | (-- none left here
               have e1 : c E + 1 = (L.length : Int) := by omega
               rw [rm_end (by omega)] at hR
               refine AW.lw ?_ (ih ((E : Int) + -1) E (up c E (c E + 1)) (by omega) (by omega) (fun j hj => ?_) (fun hj => ?_) ?_ ?_)
               · exact (And.intro rfl (And.intro rfl (And.intro rfl (And.intro rfl (And.intro rfl trivial)))))
               · rw [up_lt _ _ (by omega)]; exact hc j (by omega)
               · rw [up_lt _ _ (by omega)]; have := hc (E - 1) (by omega); omega
               · rw [hR]; exact rm_c (fun j hj => (up_lt _ _ hj).symm)
               · have m1 := msr_pop (M := L.length) (c := c) (D := E) (by omega)
                 rw [msr_c (c := up c E (c E + 1)) (c' := c) (fun j hj => up_lt _ _ hj)]
                 omega)
            | (-- not this one
               rw [up_at] at c55
               rw [mu_c (c := up c E (c E + 1)) (c' := c) (fun j hj => up_lt _ _ hj)] at c55
               rw [rm_no (by omega) (by omega) c55] at hR
               refine AW.lw ?_ (ih (E : Int) (E + 1) (up c E (c E + 1)) (by omega) (by omega) (fun j hj => ?_) (fun hj => ?_) hR ?_)
               · exact (And.intro rfl (And.intro rfl (And.intro rfl (And.intro rfl (And.intro rfl trivial)))))
               · rw [up_lt _ _ (by omega)]; exact hc j (by omega)
               · rw [show E + 1 - 1 = E by omega, up_at]; omega
               · have m1 := msr_no (M := L.length) (c := c) (D := E) (by omega)
                 omega)
            | (-- one more, deeper
               rw [up_at] at c55
               rw [mu_c (c := up c E (c E + 1)) (c' := c) (fun j hj => up_lt _ _ hj)] at c55
               rw [rm_in (by omega) (by omega) c55 (by omega)] at hR
               refine AW.hp HM_s36 ?_
               rw [show ((E : Int) + 1).toNat = E + 1 by omega]
               refine AW.lw ?_ (ih ((E : Int) + 1) (E + 2) (up (up c E (c E + 1)) (E + 1) (-1)) (by omega) (by omega) (fun j hj => ?_) (fun hj => ?_) hR ?_)
               · exact (And.intro rfl (And.intro rfl (And.intro rfl (And.intro rfl (And.intro rfl trivial)))))
               · rw [up_lt _ _ (by omega)]
                 unfold up
                 split
                 · omega
                 · exact hc j (by omega)
               · rw [show E + 2 - 1 = E + 1 by omega, up_at]; omega
               · have m1 := msr_in (M := L.length) (c := c) (D := E) (by omega) hL (by omega)
                 omega)
            | (-- all are chosen
               rw [up_at] at c55
               rw [mu_c (c := up c E (c E + 1)) (c' := c) (fun j hj => up_lt _ _ hj)] at c55
               have eq9 : E = q := by omega
               subst eq9
               rw [rm_hit (by omega) (by omega) c55] at hR
               refine AW.lw ?_ (x_X4_isNext d h hl pm rf ka wr m hM hm r rr f hf g hg L hL GF GS hS E rq R9 (up c E (c E + 1)) (fun j hj => ?_) hR)
               · exact (And.intro rfl (And.intro rfl (And.intro rfl (And.intro rfl (And.intro rfl trivial)))))
               · unfold up
                 split
                 · omega
                 · exact hc j (by omega))
set_option maxHeartbeats 2000000 in
theorem c_X4_isNext (d : Nat) (hd : 3 ≤ d) (h : List AC) (hl : 37 ≤ h.length) (pm rf ka wr : Int) (m : Nat → Int) (hM : h[30]? = some (ai 0 48 m)) (hm : mt m) (r : Int) (rr : 0 ≤ r ∧ r < 4) (f : Nat → Int) (hf : f = rwm m r) (g : Nat) (hg : g = 3 ∨ g = 4) (L : List Nat) (hL : L.length ≤ 48) (GF GS : Nat → Int) (hS : SM f g GF GS L) (q : Nat) (rq : 1 ≤ q ∧ q ≤ 2) (R9 : List (List Nat)) (c : Nat → Int) (hc : ∀ j, j ≤ q → 0 ≤ c j ∧ c j < (L.length : Int)) (hR : R9 = rm (sS f g) L (fs0 f g) q c (q + 1)) : M0 zX4_isNext d [vr 29, vi r, vi (g : Int), vi (q : Int)] (HM h pm rf (L.length : Int) ka wr GF GS c) (fun v u => ∃ c9 : Nat → Int, u = (HM h pm rf (L.length : Int) ka wr GF GS c9) ∧ ((v = some 0 ∧ R9 = []) ∨ (v = some 1 ∧ (∀ j, j ≤ q → 0 ≤ c9 j ∧ c9 j < (L.length : Int)) ∧ R9 = pr L c9 (q + 1) :: rm (sS f g) L (fs0 f g) q c9 (q + 1)))) := by
  refine M0.of okX4_isNext (Nat.le_of_ble_eq_true rfl) ?_
  refine AW.go 2 (pc' := 3) rfl ?_
  refine AW.lw ?_ (d_X4_isNext d hd h hl pm rf ka wr m hM hm r rr f hf g hg L hL GF GS hS q rq R9 _ (q : Int) (q + 1) c (by omega) (Nat.le_refl _) (fun j hj => hc j (by omega)) (fun _ => by have := hc q (Nat.le_refl _); rw [show q + 1 - 1 = q by omega]; omega) hR (Nat.lt_succ_self _))
  exact (And.intro rfl (And.intro rfl (And.intro rfl (And.intro rfl (And.intro rfl trivial)))))
set_option maxHeartbeats 2000000 in
theorem x_X4_isFirst (d : Nat) (h : List AC) (hl : 37 ≤ h.length) (pm rf ka wr : Int) (m : Nat → Int) (hM : h[30]? = some (ai 0 48 m)) (hm : mt m) (r : Int) (rr : 0 ≤ r ∧ r < 4) (f : Nat → Int) (hf : f = rwm m r) (g : Nat) (hg : g = 3 ∨ g = 4) (L : List Nat) (hL : L.length ≤ 48) (GF GS : Nat → Int) (hS : SM f g GF GS L) (q : Nat) (rq : 1 ≤ q ∧ q ≤ 2) (R9 : List (List Nat)) (c : Nat → Int) (hc : ∀ j, j ≤ q → 0 ≤ c j ∧ c j < (L.length : Int)) (hR : R9 = pr L c (q + 1) :: rm (sS f g) L (fs0 f g) q c (q + 1)) : AW zX4_isFirst Eq (rmd d) 0 0 0 0 39 [(4, vi ((q : Int) + 1)), (0, vr 29), (1, vi r), (2, vi (g : Int)), (3, vi (q : Int))] [] (HM h pm rf (L.length : Int) ka wr GF GS c) (fun v u => ∃ c9 : Nat → Int, u = (HM h pm rf (L.length : Int) ka wr GF GS c9) ∧ ((v = some 0 ∧ R9 = []) ∨ (v = some 1 ∧ (∀ j, j ≤ q → 0 ≤ c9 j ∧ c9 j < (L.length : Int)) ∧ R9 = pr L c9 (q + 1) :: rm (sS f g) L (fs0 f g) q c9 (q + 1)))) := by
  refine AW.go 1 (pc' := 41) rfl ?_
  refine AW.br (tgt := 112) (pn := 44) rfl (by decide) rfl (by first | exact bI_rng _ | exact ⟨by omega, by omega⟩) (fun c41 => ?_) (fun c41 => ?_)
  · dsimp only [cmpI] at c41
    exfalso; omega
  · dsimp only [cmpI] at c41
    refine AW.go 2 (pc' := 47) rfl ?_
    refine AW.bi (tgt := 112) (pn := 50) rfl (by decide) rfl (by first | exact bI_rng _ | exact ⟨by omega, by omega⟩) (by first | exact bI_rng _ | exact ⟨by omega, by omega⟩) (fun c47 => ?_) (fun c47 => ?_)
    · dsimp only [cmpI] at c47
      refine AW.go 2 (pc' := 115) rfl ?_
      refine AW.bi (tgt := 122) (pn := 118) rfl (by decide) rfl (by first | exact bI_rng _ | exact ⟨by omega, by omega⟩) (by first | exact bI_rng _ | exact ⟨by omega, by omega⟩) (fun c115 => ?_) (fun c115 => ?_)
      · dsimp only [cmpI] at c115
        exfalso; omega
      · dsimp only [cmpI] at c115
        refine AW.go 2 (pc' := 123) rfl ?_
        refine AW.retz rfl rfl (by first | exact bI_01 _ | decide) (Nat.le_refl _) (Nat.le_refl _) ?_
        first
          | (exfalso; omega)
          | exact ⟨c, rfl, Or.inr ⟨rfl, hc, hR⟩⟩
    · dsimp only [cmpI] at c47
      exfalso; omega
set_option maxHeartbeats 4000000 in
theorem d_X4_isFirst (d : Nat) (hd : 3 ≤ d) (h : List AC) (hl : 37 ≤ h.length) (pm rf ka wr : Int) (m : Nat → Int) (hM : h[30]? = some (ai 0 48 m)) (hm : mt m) (r : Int) (rr : 0 ≤ r ∧ r < 4) (f : Nat → Int) (hf : f = rwm m r) (g : Nat) (hg : g = 3 ∨ g = 4) (L : List Nat) (hL : L.length ≤ 48) (GF GS : Nat → Int) (hS : SM f g GF GS L) (q : Nat) (rq : 1 ≤ q ∧ q ≤ 2) (R9 : List (List Nat)) : ∀ (n : Nat) (k : Int) (D : Nat) (c : Nat → Int), (k = (D : Int) - 1) → (D ≤ q + 1) → (∀ j, j + 1 < D → 0 ≤ c j ∧ c j < (L.length : Int)) → (1 ≤ D → -1 ≤ c (D - 1) ∧ c (D - 1) < (L.length : Int)) → (R9 = rm (sS f g) L (fs0 f g) q c D) → (msr L.length c D) < n → AW zX4_isFirst Eq (rmd d) 0 0 0 0 39 [(4, vi k), (0, vr 29), (1, vi r), (2, vi (g : Int)), (3, vi (q : Int))] [] (HM h pm rf (L.length : Int) ka wr GF GS c) (fun v u => ∃ c9 : Nat → Int, u = (HM h pm rf (L.length : Int) ka wr GF GS c9) ∧ ((v = some 0 ∧ R9 = []) ∨ (v = some 1 ∧ (∀ j, j ≤ q → 0 ≤ c9 j ∧ c9 j < (L.length : Int)) ∧ R9 = pr L c9 (q + 1) :: rm (sS f g) L (fs0 f g) q c9 (q + 1)))) := by
  intro n
  induction n with
  | zero =>
    intro k D c hk hD hc hl9 hR hn
    exact absurd hn (Nat.not_lt_zero _)
  | succ n ih =>
    intro k D c hk hD hc hl9 hR hn
    refine AW.go 1 (pc' := 41) rfl ?_
    refine AW.br (tgt := 112) (pn := 44) rfl (by decide) rfl (by first | exact bI_rng _ | exact ⟨by omega, by omega⟩) (fun c41 => ?_) (fun c41 => ?_)
    · dsimp only [cmpI] at c41
      refine AW.go 2 (pc' := 115) rfl ?_
      refine AW.bi (tgt := 122) (pn := 118) rfl (by decide) rfl (by first | exact bI_rng _ | exact ⟨by omega, by omega⟩) (by first | exact bI_rng _ | exact ⟨by omega, by omega⟩) (fun c115 => ?_) (fun c115 => ?_)
      · dsimp only [cmpI] at c115
        refine AW.go 1 (pc' := 123) rfl ?_
        refine AW.retz rfl rfl (by first | exact bI_01 _ | decide) (Nat.le_refl _) (Nat.le_refl _) ?_
        first
          | (exfalso; omega)
          | (have : D = 0 := by omega
             subst this
             exact ⟨c, rfl, Or.inl ⟨rfl, hR⟩⟩)
      · dsimp only [cmpI] at c115
        exfalso; omega
    · dsimp only [cmpI] at c41
      refine AW.go 2 (pc' := 47) rfl ?_
      refine AW.bi (tgt := 112) (pn := 50) rfl (by decide) rfl (by first | exact bI_rng _ | exact ⟨by omega, by omega⟩) (by first | exact bI_rng _ | exact ⟨by omega, by omega⟩) (fun c47 => ?_) (fun c47 => ?_)
      · dsimp only [cmpI] at c47
        exfalso; omega
      · dsimp only [cmpI] at c47
        refine AW.go 1 (pc' := 51) rfl ?_
        obtain ⟨E, rfl⟩ : ∃ E, D = E + 1 := ⟨D - 1, by omega⟩
        have hk2 : k = (E : Int) := by omega
        subst hk2
        have hcE := hl9 (by omega)
        rw [show E + 1 - 1 = E by omega] at hcE
        refine AW.getf (pn := 54) rfl rfl flX4_28 (by first | assumption | exact HM_29 hl | exact HM_34 hl | exact HM_35 hl | exact HM_36 hl | exact (HM_ne (by first | decide | omega) (by first | decide | omega) (by first | decide | omega) (by first | decide | omega)).trans (by assumption)) rfl ?_
        refine AW.go 2 (pc' := 57) rfl ?_
        refine AW.iald (pn := 58) rfl rfl (by first | assumption | exact HM_29 hl | exact HM_34 hl | exact HM_35 hl | exact HM_36 hl | exact (HM_ne (by first | decide | omega) (by first | decide | omega) (by first | decide | omega) (by first | decide | omega)).trans (by assumption)) (by first | decide | omega) (by omega) (by omega) ?_
        rw [Int.toNat_natCast]
        refine AW.go 2 (pc' := 60) rfl ?_
        refine AW.iast (pn := 61) rfl rfl (by first | assumption | exact HM_29 hl | exact HM_34 hl | exact HM_35 hl | exact HM_36 hl | exact (HM_ne (by first | decide | omega) (by first | decide | omega) (by first | decide | omega) (by first | decide | omega)).trans (by assumption)) (by first | decide | omega) (by omega) (by omega) ?_
        refine AW.go 1 (pc' := 62) rfl ?_
        refine AW.hp HM_s36 ?_
        refine AW.getf (pn := 65) rfl rfl flX4_28 (by first | assumption | exact HM_29 hl | exact HM_34 hl | exact HM_35 hl | exact HM_36 hl | exact (HM_ne (by first | decide | omega) (by first | decide | omega) (by first | decide | omega) (by first | decide | omega)).trans (by assumption)) rfl ?_
        refine AW.go 1 (pc' := 67) rfl ?_
        refine AW.iald (pn := 68) rfl rfl (by first | assumption | exact HM_29 hl | exact HM_34 hl | exact HM_35 hl | exact HM_36 hl | exact (HM_ne (by first | decide | omega) (by first | decide | omega) (by first | decide | omega) (by first | decide | omega)).trans (by assumption)) (by first | decide | omega) (by omega) (by omega) ?_
        rw [Int.toNat_natCast, up_at]
        refine AW.go 1 (pc' := 69) rfl ?_
        refine AW.getf (pn := 72) rfl rfl flX4_144 (by first | assumption | exact HM_29 hl | exact HM_34 hl | exact HM_35 hl | exact HM_36 hl | exact (HM_ne (by first | decide | omega) (by first | decide | omega) (by first | decide | omega) (by first | decide | omega)).trans (by assumption)) rfl ?_
        refine AW.bi (tgt := 81) (pn := 75) rfl (by decide) rfl (by first | exact bI_rng _ | exact ⟨by omega, by omega⟩) (by first | exact bI_rng _ | exact ⟨by omega, by omega⟩) (fun c72 => ?_) (fun c72 => ?_)
        · dsimp only [cmpI] at c72
          refine AW.go 4 (pc' := 86) rfl ?_
          refine AW.callVF (pn := 89) rfl rfl mlX4_150 (by first | assumption | exact HM_29 hl | exact HM_34 hl | exact HM_35 hl | exact HM_36 hl | exact (HM_ne (by first | decide | omega) (by first | decide | omega) (by first | decide | omega) (by first | decide | omega)).trans (by assumption)) (c_X4_fits (d - 1) (by omega) h hl pm rf ka wr m hM hm r rr f hf g hg L hL GF GS hS (up c E (c E + 1)) E (by omega) (fun j hj => by unfold up; split <;> first | omega | exact hc j (by omega))) rfl rfl (Nat.le_of_ble_eq_true rfl) ⟨by show d - 1 + 1 ≤ d; omega, by show 40 * (d - 1 + 1) ≤ 40 * d; omega⟩ ⟨Nat.zero_le _, Nat.zero_le _⟩ ?_
          refine AW.bz (tgt := 39) (pn := 92) rfl (by decide) rfl (fun c89 => ?_) (fun c89 => ?_)
          · first
              | (-- none left here
                 have e1 : c E + 1 = (L.length : Int) := by omega
                 rw [rm_end (by omega)] at hR
                 refine AW.lw ?_ (ih ((E : Int) + -1) E (up c E (c E + 1)) (by omega) (by omega) (fun j hj => ?_) (fun hj => ?_) ?_ ?_)
                 · exact (And.intro rfl (And.intro rfl (And.intro rfl (And.intro rfl (And.intro rfl trivial)))))
                 · rw [up_lt _ _ (by omega)]; exact hc j (by omega)
                 · rw [up_lt _ _ (by omega)]; have := hc (E - 1) (by omega); omega
                 · rw [hR]; exact rm_c (fun j hj => (up_lt _ _ hj).symm)
                 · have m1 := msr_pop (M := L.length) (c := c) (D := E) (by omega)
                   rw [msr_c (c := up c E (c E + 1)) (c' := c) (fun j hj => up_lt _ _ hj)]
                   omega)
              | (-- not this one
                 rw [up_at] at c89
                 rw [mu_c (c := up c E (c E + 1)) (c' := c) (fun j hj => up_lt _ _ hj)] at c89
                 rw [rm_no (by omega) (by omega) c89] at hR
                 refine AW.lw ?_ (ih (E : Int) (E + 1) (up c E (c E + 1)) (by omega) (by omega) (fun j hj => ?_) (fun hj => ?_) hR ?_)
                 · exact (And.intro rfl (And.intro rfl (And.intro rfl (And.intro rfl (And.intro rfl trivial)))))
                 · rw [up_lt _ _ (by omega)]; exact hc j (by omega)
                 · rw [show E + 1 - 1 = E by omega, up_at]; omega
                 · have m1 := msr_no (M := L.length) (c := c) (D := E) (by omega)
                   omega)
              | (-- one more, deeper
                 rw [up_at] at c89
                 rw [mu_c (c := up c E (c E + 1)) (c' := c) (fun j hj => up_lt _ _ hj)] at c89
                 rw [rm_in (by omega) (by omega) c89 (by omega)] at hR
                 refine AW.hp HM_s36 ?_
                 rw [show ((E : Int) + 1).toNat = E + 1 by omega]
                 refine AW.lw ?_ (ih ((E : Int) + 1) (E + 2) (up (up c E (c E + 1)) (E + 1) (-1)) (by omega) (by omega) (fun j hj => ?_) (fun hj => ?_) hR ?_)
                 · exact (And.intro rfl (And.intro rfl (And.intro rfl (And.intro rfl (And.intro rfl trivial)))))
                 · rw [up_lt _ _ (by omega)]
                   unfold up
                   split
                   · omega
                   · exact hc j (by omega)
                 · rw [show E + 2 - 1 = E + 1 by omega, up_at]; omega
                 · have m1 := msr_in (M := L.length) (c := c) (D := E) (by omega) hL (by omega)
                   omega)
              | (-- all are chosen
                 rw [up_at] at c89
                 rw [mu_c (c := up c E (c E + 1)) (c' := c) (fun j hj => up_lt _ _ hj)] at c89
                 have eq9 : E = q := by omega
                 subst eq9
                 rw [rm_hit (by omega) (by omega) c89] at hR
                 refine AW.lw ?_ (x_X4_isFirst d h hl pm rf ka wr m hM hm r rr f hf g hg L hL GF GS hS E rq R9 (up c E (c E + 1)) (fun j hj => ?_) hR)
                 · exact (And.intro rfl (And.intro rfl (And.intro rfl (And.intro rfl (And.intro rfl trivial)))))
                 · unfold up
                   split
                   · omega
                   · exact hc j (by omega))
          · refine AW.go 3 (pc' := 98) rfl ?_
            refine AW.bi (tgt := 39) (pn := 101) rfl (by decide) rfl (by first | exact bI_rng _ | exact ⟨by omega, by omega⟩) (by first | exact bI_rng _ | exact ⟨by omega, by omega⟩) (fun c98 => ?_) (fun c98 => ?_)
            · dsimp only [cmpI] at c98
              first
                | (-- none left here
                   have e1 : c E + 1 = (L.length : Int) := by omega
                   rw [rm_end (by omega)] at hR
                   refine AW.lw ?_ (ih ((E : Int) + -1) E (up c E (c E + 1)) (by omega) (by omega) (fun j hj => ?_) (fun hj => ?_) ?_ ?_)
                   · exact (And.intro rfl (And.intro rfl (And.intro rfl (And.intro rfl (And.intro rfl trivial)))))
                   · rw [up_lt _ _ (by omega)]; exact hc j (by omega)
                   · rw [up_lt _ _ (by omega)]; have := hc (E - 1) (by omega); omega
                   · rw [hR]; exact rm_c (fun j hj => (up_lt _ _ hj).symm)
                   · have m1 := msr_pop (M := L.length) (c := c) (D := E) (by omega)
                     rw [msr_c (c := up c E (c E + 1)) (c' := c) (fun j hj => up_lt _ _ hj)]
                     omega)
                | (-- not this one
                   rw [up_at] at c89
                   rw [mu_c (c := up c E (c E + 1)) (c' := c) (fun j hj => up_lt _ _ hj)] at c89
                   rw [rm_no (by omega) (by omega) c89] at hR
                   refine AW.lw ?_ (ih (E : Int) (E + 1) (up c E (c E + 1)) (by omega) (by omega) (fun j hj => ?_) (fun hj => ?_) hR ?_)
                   · exact (And.intro rfl (And.intro rfl (And.intro rfl (And.intro rfl (And.intro rfl trivial)))))
                   · rw [up_lt _ _ (by omega)]; exact hc j (by omega)
                   · rw [show E + 1 - 1 = E by omega, up_at]; omega
                   · have m1 := msr_no (M := L.length) (c := c) (D := E) (by omega)
                     omega)
                | (-- one more, deeper
                   rw [up_at] at c89
                   rw [mu_c (c := up c E (c E + 1)) (c' := c) (fun j hj => up_lt _ _ hj)] at c89
                   rw [rm_in (by omega) (by omega) c89 (by omega)] at hR
                   refine AW.hp HM_s36 ?_
                   rw [show ((E : Int) + 1).toNat = E + 1 by omega]
                   refine AW.lw ?_ (ih ((E : Int) + 1) (E + 2) (up (up c E (c E + 1)) (E + 1) (-1)) (by omega) (by omega) (fun j hj => ?_) (fun hj => ?_) hR ?_)
                   · exact (And.intro rfl (And.intro rfl (And.intro rfl (And.intro rfl (And.intro rfl trivial)))))
                   · rw [up_lt _ _ (by omega)]
                     unfold up
                     split
                     · omega
                     · exact hc j (by omega)
                   · rw [show E + 2 - 1 = E + 1 by omega, up_at]; omega
                   · have m1 := msr_in (M := L.length) (c := c) (D := E) (by omega) hL (by omega)
                     omega)
                | (-- all are chosen
                   rw [up_at] at c89
                   rw [mu_c (c := up c E (c E + 1)) (c' := c) (fun j hj => up_lt _ _ hj)] at c89
                   have eq9 : E = q := by omega
                   subst eq9
                   rw [rm_hit (by omega) (by omega) c89] at hR
                   refine AW.lw ?_ (x_X4_isFirst d h hl pm rf ka wr m hM hm r rr f hf g hg L hL GF GS hS E rq R9 (up c E (c E + 1)) (fun j hj => ?_) hR)
                   · exact (And.intro rfl (And.intro rfl (And.intro rfl (And.intro rfl (And.intro rfl trivial)))))
                   · unfold up
                     split
                     · omega
                     · exact hc j (by omega))
            · dsimp only [cmpI] at c98
              refine AW.go 1 (pc' := 102) rfl ?_
              refine AW.getf (pn := 105) rfl rfl flX4_28 (by first | assumption | exact HM_29 hl | exact HM_34 hl | exact HM_35 hl | exact HM_36 hl | exact (HM_ne (by first | decide | omega) (by first | decide | omega) (by first | decide | omega) (by first | decide | omega)).trans (by assumption)) rfl ?_
              refine AW.go 2 (pc' := 108) rfl ?_
              refine AW.iast (pn := 109) rfl rfl (by first | assumption | exact HM_29 hl | exact HM_34 hl | exact HM_35 hl | exact HM_36 hl | exact (HM_ne (by first | decide | omega) (by first | decide | omega) (by first | decide | omega) (by first | decide | omega)).trans (by assumption)) (by first | decide | omega) (by omega) (by omega) ?_
              refine AW.go 1 (pc' := 39) rfl ?_
              first
                | (-- none left here
                   have e1 : c E + 1 = (L.length : Int) := by omega
                   rw [rm_end (by omega)] at hR
                   refine AW.lw ?_ (ih ((E : Int) + -1) E (up c E (c E + 1)) (by omega) (by omega) (fun j hj => ?_) (fun hj => ?_) ?_ ?_)
                   · exact (And.intro rfl (And.intro rfl (And.intro rfl (And.intro rfl (And.intro rfl trivial)))))
                   · rw [up_lt _ _ (by omega)]; exact hc j (by omega)
                   · rw [up_lt _ _ (by omega)]; have := hc (E - 1) (by omega); omega
                   · rw [hR]; exact rm_c (fun j hj => (up_lt _ _ hj).symm)
                   · have m1 := msr_pop (M := L.length) (c := c) (D := E) (by omega)
                     rw [msr_c (c := up c E (c E + 1)) (c' := c) (fun j hj => up_lt _ _ hj)]
                     omega)
                | (-- not this one
                   rw [up_at] at c89
                   rw [mu_c (c := up c E (c E + 1)) (c' := c) (fun j hj => up_lt _ _ hj)] at c89
                   rw [rm_no (by omega) (by omega) c89] at hR
                   refine AW.lw ?_ (ih (E : Int) (E + 1) (up c E (c E + 1)) (by omega) (by omega) (fun j hj => ?_) (fun hj => ?_) hR ?_)
                   · exact (And.intro rfl (And.intro rfl (And.intro rfl (And.intro rfl (And.intro rfl trivial)))))
                   · rw [up_lt _ _ (by omega)]; exact hc j (by omega)
                   · rw [show E + 1 - 1 = E by omega, up_at]; omega
                   · have m1 := msr_no (M := L.length) (c := c) (D := E) (by omega)
                     omega)
                | (-- one more, deeper
                   rw [up_at] at c89
                   rw [mu_c (c := up c E (c E + 1)) (c' := c) (fun j hj => up_lt _ _ hj)] at c89
                   rw [rm_in (by omega) (by omega) c89 (by omega)] at hR
                   refine AW.hp HM_s36 ?_
                   rw [show ((E : Int) + 1).toNat = E + 1 by omega]
                   refine AW.lw ?_ (ih ((E : Int) + 1) (E + 2) (up (up c E (c E + 1)) (E + 1) (-1)) (by omega) (by omega) (fun j hj => ?_) (fun hj => ?_) hR ?_)
                   · exact (And.intro rfl (And.intro rfl (And.intro rfl (And.intro rfl (And.intro rfl trivial)))))
                   · rw [up_lt _ _ (by omega)]
                     unfold up
                     split
                     · omega
                     · exact hc j (by omega)
                   · rw [show E + 2 - 1 = E + 1 by omega, up_at]; omega
                   · have m1 := msr_in (M := L.length) (c := c) (D := E) (by omega) hL (by omega)
                     omega)
                | (-- all are chosen
                   rw [up_at] at c89
                   rw [mu_c (c := up c E (c E + 1)) (c' := c) (fun j hj => up_lt _ _ hj)] at c89
                   have eq9 : E = q := by omega
                   subst eq9
                   rw [rm_hit (by omega) (by omega) c89] at hR
                   refine AW.lw ?_ (x_X4_isFirst d h hl pm rf ka wr m hM hm r rr f hf g hg L hL GF GS hS E rq R9 (up c E (c E + 1)) (fun j hj => ?_) hR)
                   · exact (And.intro rfl (And.intro rfl (And.intro rfl (And.intro rfl (And.intro rfl trivial)))))
                   · unfold up
                     split
                     · omega
                     · exact hc j (by omega))
        · dsimp only [cmpI] at c72
          refine AW.go 2 (pc' := 39) rfl ?_
          first
            | (-- none left here
               have e1 : c E + 1 = (L.length : Int) := by omega
               rw [rm_end (by omega)] at hR
               refine AW.lw ?_ (ih ((E : Int) + -1) E (up c E (c E + 1)) (by omega) (by omega) (fun j hj => ?_) (fun hj => ?_) ?_ ?_)
               · exact (And.intro rfl (And.intro rfl (And.intro rfl (And.intro rfl (And.intro rfl trivial)))))
               · rw [up_lt _ _ (by omega)]; exact hc j (by omega)
               · rw [up_lt _ _ (by omega)]; have := hc (E - 1) (by omega); omega
               · rw [hR]; exact rm_c (fun j hj => (up_lt _ _ hj).symm)
               · have m1 := msr_pop (M := L.length) (c := c) (D := E) (by omega)
                 rw [msr_c (c := up c E (c E + 1)) (c' := c) (fun j hj => up_lt _ _ hj)]
                 omega)
            | (-- not this one
               rw [up_at] at c89
               rw [mu_c (c := up c E (c E + 1)) (c' := c) (fun j hj => up_lt _ _ hj)] at c89
               rw [rm_no (by omega) (by omega) c89] at hR
               refine AW.lw ?_ (ih (E : Int) (E + 1) (up c E (c E + 1)) (by omega) (by omega) (fun j hj => ?_) (fun hj => ?_) hR ?_)
               · exact (And.intro rfl (And.intro rfl (And.intro rfl (And.intro rfl (And.intro rfl trivial)))))
               · rw [up_lt _ _ (by omega)]; exact hc j (by omega)
               · rw [show E + 1 - 1 = E by omega, up_at]; omega
               · have m1 := msr_no (M := L.length) (c := c) (D := E) (by omega)
                 omega)
            | (-- one more, deeper
               rw [up_at] at c89
               rw [mu_c (c := up c E (c E + 1)) (c' := c) (fun j hj => up_lt _ _ hj)] at c89
               rw [rm_in (by omega) (by omega) c89 (by omega)] at hR
               refine AW.hp HM_s36 ?_
               rw [show ((E : Int) + 1).toNat = E + 1 by omega]
               refine AW.lw ?_ (ih ((E : Int) + 1) (E + 2) (up (up c E (c E + 1)) (E + 1) (-1)) (by omega) (by omega) (fun j hj => ?_) (fun hj => ?_) hR ?_)
               · exact (And.intro rfl (And.intro rfl (And.intro rfl (And.intro rfl (And.intro rfl trivial)))))
               · rw [up_lt _ _ (by omega)]
                 unfold up
                 split
                 · omega
                 · exact hc j (by omega)
               · rw [show E + 2 - 1 = E + 1 by omega, up_at]; omega
               · have m1 := msr_in (M := L.length) (c := c) (D := E) (by omega) hL (by omega)
                 omega)
            | (-- all are chosen
               rw [up_at] at c89
               rw [mu_c (c := up c E (c E + 1)) (c' := c) (fun j hj => up_lt _ _ hj)] at c89
               have eq9 : E = q := by omega
               subst eq9
               rw [rm_hit (by omega) (by omega) c89] at hR
               refine AW.lw ?_ (x_X4_isFirst d h hl pm rf ka wr m hM hm r rr f hf g hg L hL GF GS hS E rq R9 (up c E (c E + 1)) (fun j hj => ?_) hR)
               · exact (And.intro rfl (And.intro rfl (And.intro rfl (And.intro rfl (And.intro rfl trivial)))))
               · unfold up
                 split
                 · omega
                 · exact hc j (by omega))
set_option maxHeartbeats 4000000 in
theorem l_X4_isFirst (d : Nat) (hd : 5 ≤ d) (h : List AC) (hl : 37 ≤ h.length) (pm rf ka wr : Int) (m : Nat → Int) (hM : h[30]? = some (ai 0 48 m)) (hm : mt m) (r : Int) (rr : 0 ≤ r ∧ r < 4) (f : Nat → Int) (hf : f = rwm m r) (g : Nat) (hg : g = 3 ∨ g = 4) (q : Nat) (rq : 1 ≤ q ∧ q ≤ 2) (c : Nat → Int) : ∀ (n : Nat) (k : Int) (GF : Nat → Int) (GS : Nat → Int), (0 ≤ k) → (k ≤ 48) → (SM f g GF GS (gM f g k.toNat)) → ((48 - k).toNat) < n → AW zX4_isFirst Eq (rmd d) 0 0 0 0 8 [(4, vi k), (0, vr 29), (1, vi r), (2, vi (g : Int)), (3, vi (q : Int))] [] (HM h pm rf ((gM f g k.toNat).length : Int) ka wr GF GS c) (fun v u => ∃ GF GS c9 : Nat → Int, u = (HM h pm rf ((gM f g 48).length : Int) ka wr GF GS c9) ∧ SM f g GF GS (gM f g 48) ∧ ((v = some 0 ∧ en (sS f g) (gM f g 48) (q + 1) (fs0 f g) = []) ∨ (v = some 1 ∧ (∀ j, j ≤ q → 0 ≤ c9 j ∧ c9 j < ((gM f g 48).length : Int)) ∧ en (sS f g) (gM f g 48) (q + 1) (fs0 f g) = pr (gM f g 48) c9 (q + 1) :: rm (sS f g) (gM f g 48) (fs0 f g) q c9 (q + 1)))) := by
  intro n
  induction n with
  | zero =>
    intro k GF GS h0 h1 hS hn
    exact absurd hn (Nat.not_lt_zero _)
  | succ n ih =>
    intro k GF GS h0 h1 hS hn
    refine AW.go 2 (pc' := 12) rfl ?_
    refine AW.bi (tgt := 29) (pn := 15) rfl (by decide) rfl (by first | exact bI_rng _ | exact ⟨by omega, by omega⟩) (by first | exact bI_rng _ | exact ⟨by omega, by omega⟩) (fun c12 => ?_) (fun c12 => ?_)
    · dsimp only [cmpI] at c12
      refine AW.go 3 (pc' := 33) rfl ?_
      refine AW.getf (pn := 36) rfl rfl flX4_28 (by first | assumption | exact HM_29 hl | exact HM_34 hl | exact HM_35 hl | exact HM_36 hl | exact (HM_ne (by first | decide | omega) (by first | decide | omega) (by first | decide | omega) (by first | decide | omega)).trans (by assumption)) rfl ?_
      refine AW.go 2 (pc' := 38) rfl ?_
      refine AW.iast (pn := 39) rfl rfl (by first | assumption | exact HM_29 hl | exact HM_34 hl | exact HM_35 hl | exact HM_36 hl | exact (HM_ne (by first | decide | omega) (by first | decide | omega) (by first | decide | omega) (by first | decide | omega)).trans (by assumption)) (by first | decide | omega) (by omega) (by omega) ?_
      rw [show k.toNat = 48 by omega] at hS ⊢
      refine AW.hp HM_s36 ?_
      refine AW.post (AW.lw ?_ (d_X4_isFirst d (by omega) h hl pm rf ka wr m hM hm r rr f hf g hg (gM f g 48) (gM_len f g 48) GF GS hS q rq (en (sS f g) (gM f g 48) (q + 1) (fs0 f g)) _ 0 1 (up c 0 (-1)) (by omega) (by omega) (fun j hj => by omega) (fun _ => by rw [show 1 - 1 = 0 from rfl, up_at]; omega) (rm_start (up_at _ _ _)).symm (Nat.lt_succ_self _))) (fun v u hq => ?_)
      · exact (And.intro rfl (And.intro rfl (And.intro rfl (And.intro rfl (And.intro rfl trivial)))))
      · obtain ⟨c9, e1, e2⟩ := hq
        exact ⟨GF, GS, c9, e1, hS, e2⟩
    · dsimp only [cmpI] at c12
      refine AW.go 4 (pc' := 20) rfl ?_
      rw [show vi k = vi ((k.toNat : Nat) : Int) by rw [kk h0]]
      refine AW.callV (pn := 23) rfl rfl mlX4_156 (by first | assumption | exact HM_29 hl | exact HM_34 hl | exact HM_35 hl | exact HM_36 hl | exact (HM_ne (by first | decide | omega) (by first | decide | omega) (by first | decide | omega) (by first | decide | omega)).trans (by assumption)) (c_X4_addGroup (d - 1) (by omega) h hl pm rf ka wr m hM hm r rr f hf g hg c (gM f g k.toNat) (by have := gM_len f g k.toNat; omega) (fun x hx => by have := gM_mem f g _ x hx; omega) GF GS hS k.toNat (by omega)) rfl rfl (Nat.le_of_ble_eq_true rfl) ⟨by show d - 1 + 1 ≤ d; omega, by show 40 * (d - 1 + 1) ≤ 40 * d; omega⟩ ⟨Nat.zero_le _, Nat.zero_le _⟩ ?_
      intro v u hq
      obtain ⟨rfl, GF9, GS9, rfl, hS9⟩ := hq
      dsimp only [Option.toList, List.map, List.nil_append]
      rw [kk h0]
      refine AW.go 2 (pc' := 8) rfl ?_
      have e9 : gM f g (k + 1).toNat = insF f g k.toNat (gM f g k.toNat) := by
        rw [k1 h0]; rfl
      rw [← e9] at hS9 ⊢
      refine AW.lw ?_ (ih (k + 1) GF9 GS9 (by omega) (by omega) hS9 (by omega))
      exact (And.intro rfl (And.intro rfl (And.intro rfl (And.intro rfl (And.intro rfl trivial)))))
set_option maxHeartbeats 2000000 in
theorem c_X4_isFirst (d : Nat) (hd : 5 ≤ d) (h : List AC) (hl : 37 ≤ h.length) (pm rf ka wr : Int) (m : Nat → Int) (hM : h[30]? = some (ai 0 48 m)) (hm : mt m) (r : Int) (rr : 0 ≤ r ∧ r < 4) (f : Nat → Int) (hf : f = rwm m r) (g : Nat) (hg : g = 3 ∨ g = 4) (q : Nat) (rq : 1 ≤ q ∧ q ≤ 2) (c : Nat → Int) (m9 : Int) (GF GS : Nat → Int) : M0 zX4_isFirst d [vr 29, vi r, vi (g : Int), vi (q : Int)] (HM h pm rf m9 ka wr GF GS c) (fun v u => ∃ GF GS c9 : Nat → Int, u = (HM h pm rf ((gM f g 48).length : Int) ka wr GF GS c9) ∧ SM f g GF GS (gM f g 48) ∧ ((v = some 0 ∧ en (sS f g) (gM f g 48) (q + 1) (fs0 f g) = []) ∨ (v = some 1 ∧ (∀ j, j ≤ q → 0 ≤ c9 j ∧ c9 j < ((gM f g 48).length : Int)) ∧ en (sS f g) (gM f g 48) (q + 1) (fs0 f g) = pr (gM f g 48) c9 (q + 1) :: rm (sS f g) (gM f g 48) (fs0 f g) q c9 (q + 1)))) := by
  refine M0.of okX4_isFirst (Nat.le_of_ble_eq_true rfl) ?_
  refine AW.go 2 (pc' := 2) rfl ?_
  refine AW.putf (pn := 5) rfl rfl flX4_144 (by first | assumption | exact HM_29 hl | exact HM_34 hl | exact HM_35 hl | exact HM_36 hl | exact (HM_ne (by first | decide | omega) (by first | decide | omega) (by first | decide | omega) (by first | decide | omega)).trans (by assumption)) rfl (by first | trivial | exact bI_01 _ | exact Or.inl rfl | exact Or.inr rfl) ?_
  refine AW.go 2 (pc' := 8) rfl ?_
  refine AW.hp HM_s29 ?_
  refine AW.lw ?_ (l_X4_isFirst d hd h hl pm rf ka wr m hM hm r rr f hf g hg q rq c _ 0 GF GS (by omega) (by omega) (fun j hj => absurd hj (Nat.not_lt_zero _)) (Nat.lt_succ_self _))
  exact (And.intro rfl (And.intro rfl (And.intro rfl (And.intro rfl (And.intro rfl trivial)))))
