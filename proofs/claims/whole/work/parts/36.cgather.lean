set_option maxHeartbeats 4000000 in
theorem l1_X1_gather (d : Nat) (hd : 4 ≤ d) (h : List AC) (hl : 28 ≤ h.length) (f : Nat → Int) (hf : tn f) (g : Nat) (hg : g = 3 ∨ g = 4) (A : Nat) (hA : h[A]? = some (ai 0 12 f)) (a1 : A ≠ 25) (a2 : A ≠ 26) (a3 : A ≠ 27) (M w b o9 : Int) (K T : Nat → Int) (F : Int) (rF : 0 ≤ F ∧ F < 48) (QQ : Option Int → List AC → Prop) (kx : AW zX1_gather Eq (rmd d) 0 0 0 0 96 [(5, vi (sS f g F.toNat : Int)), (4, vi (sK f g F.toNat : Int)), (3, vi F), (0, vr 25), (1, vr A), (2, vi (g : Int))] [] (HC h M w b o9 K T) QQ) : ∀ (n : Nat) (p : Int), (0 ≤ p) → (p ≤ (g : Int)) → (((g : Int) - p).toNat) < n → AW zX1_gather Eq (rmd d) 0 0 0 0 56 [(6, vi p), (5, vi (gs f g F.toNat p.toNat : Int)), (4, vi (gk f g F.toNat p.toNat : Int)), (3, vi F), (0, vr 25), (1, vr A), (2, vi (g : Int))] [] (HC h M w b o9 K T) QQ := by
  intro n
  induction n with
  | zero =>
    intro p h0 h1 hn
    exact absurd hn (Nat.not_lt_zero _)
  | succ n ih =>
    intro p h0 h1 hn
    refine AW.go 2 (pc' := 59) rfl ?_
    refine AW.bi (tgt := 96) (pn := 62) rfl (by decide) rfl (by first | exact bI_rng _ | exact ⟨by omega, by omega⟩) (by first | exact bI_rng _ | exact ⟨by omega, by omega⟩) (fun c59 => ?_) (fun c59 => ?_)
    · dsimp only [cmpI] at c59
      rw [show p.toNat = g by omega]
      refine AW.lw ?_ kx
      exact (And.intro rfl (And.intro rfl (And.intro rfl (And.intro rfl (And.intro rfl (And.intro rfl trivial))))))
    · dsimp only [cmpI] at c59
      refine AW.go 4 (pc' := 67) rfl ?_
      refine AW.callSF (pn := 70) rfl rfl mlX1_35 (c_X3_formTone (d - 1) (by omega) _ A f ((HC_ne a1 a2 a3).trans hA) hf _ _ _ (by omega) (by omega) (by omega)) rfl rfl (Nat.le_of_ble_eq_true rfl) ⟨by show d - 1 + 1 ≤ d; omega, by show 40 * (d - 1 + 1) ≤ 40 * d; omega⟩ ⟨Nat.zero_le _, Nat.zero_le _⟩ ?_
      refine AW.go 3 (pc' := 75) rfl ?_
      
      refine AW.ishl (pn := 76) rfl rfl (by omega) (by omega) (by omega) ?_
      refine AW.go 1 (pc' := 78) rfl ?_
      have b0 := ft_b f (g : Int) F p
      have b1 : gk f g F.toNat p.toNat * 16 ||| (ft f (g : Int) F p).toNat = gk f g F.toNat (p + 1).toNat := by
        rw [k1 h0]
        show _ = gk f g F.toNat p.toNat * 16 + (ft f (g : Int) ((F.toNat : Nat) : Int) ((p.toNat : Nat) : Int)).toNat
        rw [kk rF.1, kk h0]
        have e7 := Nat.two_pow_add_eq_or_of_lt (i := 4) (b := (ft f (g : Int) F p).toNat) (by omega) (gk f g F.toNat p.toNat)
        rw [Nat.mul_comm] at e7
        exact e7.symm
      rw [show ((gk f g F.toNat p.toNat : Nat) : Int) * 2 ^ (4 : Int).toNat = ((gk f g F.toNat p.toNat * 16 : Nat) : Int) by push_cast; rfl]
      rw [show vi (ft f (g : Int) F p) = vi (((ft f (g : Int) F p).toNat : Nat) : Int) by rw [kk b0.1]]
      first | refine AW.orN (pn := 79) rfl rfl ?_ | refine AW.orN (y := 0) (pn := 79) rfl rfl ?_
      rw [b1]
      refine AW.go 4 (pc' := 86) rfl ?_
      
      refine AW.shl1 (pn := 87) rfl rfl (by omega) (by omega) ?_
      first | refine AW.orN (pn := 88) rfl rfl ?_ | refine AW.orN (y := 0) (pn := 88) rfl rfl ?_
      refine AW.go 3 (pc' := 56) rfl ?_
      have b2 : gs f g F.toNat p.toNat ||| 2 ^ (ft f (g : Int) F p).toNat = gs f g F.toNat (p + 1).toNat := by
        rw [k1 h0]
        show _ = gs f g F.toNat p.toNat ||| 2 ^ (ft f (g : Int) ((F.toNat : Nat) : Int) ((p.toNat : Nat) : Int)).toNat
        rw [kk rF.1, kk h0]
      rw [kk b0.1, b2]
      refine AW.lw ?_ (ih (p + 1) (by omega) (by omega) (by omega))
      exact (And.intro rfl (And.intro rfl (And.intro rfl (And.intro rfl (And.intro rfl (And.intro rfl (And.intro rfl trivial)))))))
set_option maxHeartbeats 4000000 in
theorem l_X1_gather (d : Nat) (hd : 5 ≤ d) (h : List AC) (hl : 28 ≤ h.length) (f : Nat → Int) (hf : tn f) (g : Nat) (hg : g = 3 ∨ g = 4) (A : Nat) (hA : h[A]? = some (ai 0 12 f)) (a1 : A ≠ 25) (a2 : A ≠ 26) (a3 : A ≠ 27) : ∀ (n : Nat) (F : Int) (K : Nat → Int) (T : Nat → Int), (0 ≤ F) → (F ≤ 48) → (SC f g K T (gC f g (fs0 f g) F.toNat)) → ((48 - F).toNat) < n → AW zX1_gather Eq (rmd d) 0 0 0 0 41 [(3, vi F), (0, vr 25), (1, vr A), (2, vi (g : Int))] [] (HC h ((gC f g (fs0 f g) F.toNat).length : Int) (g : Int) ((fs0 f g) : Int) (12 / (g : Int) - 1) K T) (fun v u => v = none ∧ ∃ K9 T9 : Nat → Int, u = (HC h ((gC f g (fs0 f g) 48).length : Int) (g : Int) ((fs0 f g) : Int) (12 / (g : Int) - 1) K9 T9) ∧ SC f g K9 T9 (gC f g (fs0 f g) 48)) := by
  intro n
  induction n with
  | zero =>
    intro F K T h0 h1 hS hn
    exact absurd hn (Nat.not_lt_zero _)
  | succ n ih =>
    intro F K T h0 h1 hS hn
    refine AW.go 2 (pc' := 44) rfl ?_
    refine AW.bi (tgt := 120) (pn := 47) rfl (by decide) rfl (by first | exact bI_rng _ | exact ⟨by omega, by omega⟩) (by first | exact bI_rng _ | exact ⟨by omega, by omega⟩) (fun c44 => ?_) (fun c44 => ?_)
    · dsimp only [cmpI] at c44
      refine AW.retv rfl rfl (Nat.le_refl _) (Nat.le_refl _) ?_
      rw [show F.toNat = 48 by omega] at hS ⊢
      exact ⟨rfl, K, T, rfl, hS⟩
    · dsimp only [cmpI] at c44
      refine AW.go 6 (pc' := 56) rfl ?_
      refine AW.lw ?_ (l1_X1_gather d (by omega) h hl f hf g hg A hA a1 a2 a3 _ _ _ _ K T F (by omega) _ ?_ _ 0 (by omega) (by omega) (Nat.lt_succ_self _))
      · exact (And.intro rfl (And.intro rfl (And.intro rfl (And.intro rfl (And.intro rfl (And.intro rfl (And.intro rfl trivial)))))))
      · refine AW.go 2 (pc' := 99) rfl ?_
        refine AW.getf (pn := 102) rfl rfl flX1_25 (by first | assumption | exact HC_25 hl | exact HC_26 hl | exact HC_27 hl | exact (HC_ne (by first | decide | omega) (by first | decide | omega) (by first | decide | omega)).trans (by assumption)) rfl ?_
        refine AW.andN (pn := 103) rfl rfl ?_
        have q1 : sS f g F.toNat &&& fs0 f g ≤ sS f g F.toNat := Nat.and_le_left
        have q2 := sS_lt f g F.toNat
        refine AW.br (tgt := 114) (pn := 106) rfl (by decide) rfl (by first | exact bI_rng _ | exact ⟨by omega, by omega⟩) (fun c103 => ?_) (fun c103 => ?_)
        · dsimp only [cmpI] at c103
          first
            | (intro v u hq
               obtain ⟨rfl, K9, T9, rfl, hS9⟩ := hq
               dsimp only [Option.toList, List.map, List.nil_append])
            | skip
          refine AW.go 2 (pc' := 41) rfl ?_
          first
            | (have e9 : gC f g (fs0 f g) (F + 1).toNat = insF f g F.toNat (gC f g (fs0 f g) F.toNat) := by
                 rw [k1 h0]; exact if_pos (by omega)
               rw [← e9] at hS9 ⊢
               refine AW.lw ?_ (ih (F + 1) K9 T9 (by omega) (by omega) hS9 (by omega))
               exact (And.intro rfl (And.intro rfl (And.intro rfl (And.intro rfl trivial)))))
            | (have e9 : gC f g (fs0 f g) (F + 1).toNat = gC f g (fs0 f g) F.toNat := by
                 rw [k1 h0]; exact if_neg (by omega)
               rw [← e9] at hS ⊢
               refine AW.lw ?_ (ih (F + 1) K T (by omega) (by omega) hS (by omega))
               exact (And.intro rfl (And.intro rfl (And.intro rfl (And.intro rfl trivial)))))
        · dsimp only [cmpI] at c103
          refine AW.go 3 (pc' := 111) rfl ?_
          refine AW.callV (pn := 114) rfl rfl mlX1_38 (by first | assumption | exact HC_25 hl | exact HC_26 hl | exact HC_27 hl | exact (HC_ne (by first | decide | omega) (by first | decide | omega) (by first | decide | omega)).trans (by assumption)) (c_X1_insert (d - 1) (by omega) h hl f g hg (gC f g (fs0 f g) F.toNat) _ _ _ K T hS (by have := gC_len f g (fs0 f g) F.toNat; omega) (gC_srt _ _ _ _) F.toNat) rfl rfl (Nat.le_of_ble_eq_true rfl) ⟨by show d - 1 + 1 ≤ d; omega, by show 40 * (d - 1 + 1) ≤ 40 * d; omega⟩ ⟨Nat.zero_le _, Nat.zero_le _⟩ ?_
          first
            | (intro v u hq
               obtain ⟨rfl, K9, T9, rfl, hS9⟩ := hq
               dsimp only [Option.toList, List.map, List.nil_append])
            | skip
          refine AW.go 2 (pc' := 41) rfl ?_
          first
            | (have e9 : gC f g (fs0 f g) (F + 1).toNat = insF f g F.toNat (gC f g (fs0 f g) F.toNat) := by
                 rw [k1 h0]; exact if_pos (by omega)
               rw [← e9] at hS9 ⊢
               refine AW.lw ?_ (ih (F + 1) K9 T9 (by omega) (by omega) hS9 (by omega))
               exact (And.intro rfl (And.intro rfl (And.intro rfl (And.intro rfl trivial)))))
            | (have e9 : gC f g (fs0 f g) (F + 1).toNat = gC f g (fs0 f g) F.toNat := by
                 rw [k1 h0]; exact if_neg (by omega)
               rw [← e9] at hS ⊢
               refine AW.lw ?_ (ih (F + 1) K T (by omega) (by omega) hS (by omega))
               exact (And.intro rfl (And.intro rfl (And.intro rfl (And.intro rfl trivial)))))
set_option maxHeartbeats 2000000 in
theorem c_X1_gather (d : Nat) (hd : 5 ≤ d) (h : List AC) (hl : 28 ≤ h.length) (f : Nat → Int) (hf : tn f) (g : Nat) (hg : g = 3 ∨ g = 4) (A : Nat) (hA : h[A]? = some (ai 0 12 f)) (a1 : A ≠ 25) (a2 : A ≠ 26) (a3 : A ≠ 27) (m0 w0 b0 o0 : Int) (K T : Nat → Int) : M0 zX1_gather d [vr 25, vr A, vi (g : Int)] (HC h m0 w0 b0 o0 K T) (fun v u => v = none ∧ ∃ K9 T9 : Nat → Int, u = (HC h ((gC f g (fs0 f g) 48).length : Int) (g : Int) ((fs0 f g) : Int) (12 / (g : Int) - 1) K9 T9) ∧ SC f g K9 T9 (gC f g (fs0 f g) 48)) := by
  refine M0.of okX1_gather (Nat.le_of_ble_eq_true rfl) ?_
  refine AW.go 2 (pc' := 2) rfl ?_
  refine AW.putf (pn := 5) rfl rfl flX1_18 (by first | assumption | exact HC_25 hl | exact HC_26 hl | exact HC_27 hl | exact (HC_ne (by first | decide | omega) (by first | decide | omega) (by first | decide | omega)).trans (by assumption)) rfl (by first | trivial | exact bI_01 _ | exact Or.inl rfl | exact Or.inr rfl) ?_
  refine AW.go 2 (pc' := 7) rfl ?_
  refine AW.hp HC_s25 ?_
  refine AW.putf (pn := 10) rfl rfl flX1_22 (by first | assumption | exact HC_25 hl | exact HC_26 hl | exact HC_27 hl | exact (HC_ne (by first | decide | omega) (by first | decide | omega) (by first | decide | omega)).trans (by assumption)) rfl (by first | trivial | exact bI_01 _ | exact Or.inl rfl | exact Or.inr rfl) ?_
  refine AW.go 5 (pc' := 15) rfl ?_
  refine AW.hp HC_s25 ?_
  refine AW.callSF (pn := 18) rfl rfl mlX1_31 (c_X3_formSet (d - 1) (by omega) _ A f ((HC_ne a1 a2 a3).trans hA) hf _ _ _ (by omega) (by omega)) rfl rfl (Nat.le_of_ble_eq_true rfl) ⟨by show d - 1 + 1 ≤ d; omega, by show 40 * (d - 1 + 1) ≤ 40 * d; omega⟩ ⟨Nat.zero_le _, Nat.zero_le _⟩ ?_
  rw [show ((g : Int)).toNat = g from Int.toNat_natCast g, fst_fs0 hf g (by omega)]
  refine AW.putf (pn := 21) rfl rfl flX1_25 (by first | assumption | exact HC_25 hl | exact HC_26 hl | exact HC_27 hl | exact (HC_ne (by first | decide | omega) (by first | decide | omega) (by first | decide | omega)).trans (by assumption)) rfl (by first | trivial | exact bI_01 _ | exact Or.inl rfl | exact Or.inr rfl) ?_
  refine AW.go 2 (pc' := 23) rfl ?_
  refine AW.hp HC_s25 ?_
  refine AW.br (tgt := 35) (pn := 26) rfl (by decide) rfl (by first | exact bI_rng _ | exact ⟨by omega, by omega⟩) (fun c23 => ?_) (fun c23 => ?_)
  · dsimp only [cmpI] at c23
    exfalso; omega
  · dsimp only [cmpI] at c23
    refine AW.go 2 (pc' := 29) rfl ?_
    refine AW.idiv (pn := 30) rfl rfl (by omega) (by omega) (by omega) (by omega) ?_
    refine AW.go 3 (pc' := 36) rfl ?_
    refine AW.putf (pn := 39) rfl rfl flX1_28 (by first | assumption | exact HC_25 hl | exact HC_26 hl | exact HC_27 hl | exact (HC_ne (by first | decide | omega) (by first | decide | omega) (by first | decide | omega)).trans (by assumption)) rfl (by first | trivial | exact bI_01 _ | exact Or.inl rfl | exact Or.inr rfl) ?_
    refine AW.go 2 (pc' := 41) rfl ?_
    refine AW.hp HC_s25 ?_
    refine AW.lw ?_ (l_X1_gather d hd h hl f hf g hg A hA a1 a2 a3 _ 0 K T (by omega) (by omega) (fun j hj => absurd hj (Nat.not_lt_zero _)) (Nat.lt_succ_self _))
    exact (And.intro rfl (And.intro rfl (And.intro rfl (And.intro rfl trivial))))
