theorem EN_q {f : Nat → Int} {g q : Nat} (hq : q = 12 / g - 2) (hg : g = 3 ∨ g = 4) : en (sS f g) (gM f g 48) (q + 1) (fs0 f g) = EN f g := by
  unfold EN
  rw [show 12 / g - 1 = q + 1 by rcases hg with rfl | rfl <;> omega]
theorem drop_hit {X : List (List Nat)} {a : Nat} {x : List Nat} {Y : List (List Nat)} (h : X.drop a = x :: Y) : a < X.length ∧ X.getD a [] = x ∧ X.drop (a + 1) = Y := by
  have h1 : a < X.length := by
    apply Decidable.byContradiction
    intro q
    rw [List.drop_eq_nil_of_le (by omega)] at h
    cases h
  rw [List.drop_eq_getElem_cons h1] at h
  injection h with h2 h3
  refine ⟨h1, ?_, h3⟩
  rw [List.getD_eq_getElem?_getD, List.getElem?_eq_getElem h1]
  exact h2

set_option maxHeartbeats 4000000 in
theorem l_X4_making (d : Nat) (hd : 5 ≤ d) (h : List AC) (hl : 37 ≤ h.length) (pm rf ka wr : Int) (m : Nat → Int) (hM : h[30]? = some (ai 0 48 m)) (hm : mt m) (r : Int) (rr : 0 ≤ r ∧ r < 4) (f : Nat → Int) (hf : f = rwm m r) (g : Nat) (hg : g = 3 ∨ g = 4) (q : Nat) (hq : q = 12 / g - 2) (GF GS : Nat → Int) (hS : SM f g GF GS (gM f g 48)) (i p : Int) (ri : -2147483648 ≤ i ∧ i < 2147483648) (rp : 0 ≤ p ∧ p < 12) : ∀ (n : Nat) (a : Int) (x7 : Int) (c : Nat → Int), (0 ≤ a) → (a ≤ ((EN f g).length : Int)) → (i < 0 ∨ a ≤ i) → ((x7 = 0 ∧ (EN f g).drop a.toNat = []) ∨ (x7 = 1 ∧ (∀ j, j ≤ q → 0 ≤ c j ∧ c j < ((gM f g 48).length : Int)) ∧ (EN f g).drop a.toNat = pr (gM f g 48) c (q + 1) :: rm (sS f g) (gM f g 48) (fs0 f g) q c (q + 1))) → (((EN f g).length : Int).toNat - a.toNat) < n → AW zX4_making Eq (rmd d) 0 0 0 0 65 [(6, vi a), (7, vi x7), (5, vi (q : Int)), (0, vr 29), (1, vi r), (2, vi (g : Int)), (3, vi i), (4, vi p)] [] (HM h pm rf ((gM f g 48).length : Int) ka wr GF GS c) (fun v u => v = some (V_mk f g i p) ∧ ∃ (m9 : Int) (F9 S9 C9 : Nat → Int), u = HM h pm rf m9 ka wr F9 S9 C9) := by
  intro n
  induction n with
  | zero =>
    intro a x7 c h0 h1 hi hs hn
    exact absurd hn (Nat.not_lt_zero _)
  | succ n ih =>
    intro a x7 c h0 h1 hi hs hn
    refine AW.go 1 (pc' := 67) rfl ?_
    have hsm := EN_lt f hg
    have hx7 : x7 = 0 ∨ x7 = 1 := by rcases hs with ⟨e, -⟩ | ⟨e, -⟩ <;> omega
    refine AW.br (tgt := 138) (pn := 70) rfl (by decide) rfl (by first | exact bI_rng _ | exact ⟨by omega, by omega⟩) (fun c67 => ?_) (fun c67 => ?_)
    · dsimp only [cmpI] at c67
      refine AW.go 2 (pc' := 140) rfl ?_
      refine AW.bi (tgt := 148) (pn := 143) rfl (by decide) rfl (by first | exact bI_rng _ | exact ⟨by omega, by omega⟩) (by first | exact bI_rng _ | exact ⟨by omega, by omega⟩) (fun c140 => ?_) (fun c140 => ?_)
      · dsimp only [cmpI] at c140
        refine AW.go 1 (pc' := 150) rfl ?_
        refine AW.ret rfl rfl (Nat.le_refl _) (Nat.le_refl _) ?_
        have hd0 : (EN f g).drop a.toNat = [] := by
          rcases hs with ⟨-, e⟩ | ⟨e, -⟩
          · exact e
          · omega
        have hlen : (EN f g).length ≤ a.toNat := by
          have := congrArg List.length hd0
          rw [List.length_drop, List.length_nil] at this
          omega
        refine ⟨congrArg some ?_, ⟨_, _, _, _, rfl⟩⟩
        unfold V_mk
        first
          | (rw [if_pos (by omega)]; omega)
          | (rw [if_neg (by omega), if_neg (by omega)])
      · dsimp only [cmpI] at c140
        refine AW.go 2 (pc' := 150) rfl ?_
        refine AW.ret rfl rfl (Nat.le_refl _) (Nat.le_refl _) ?_
        have hd0 : (EN f g).drop a.toNat = [] := by
          rcases hs with ⟨-, e⟩ | ⟨e, -⟩
          · exact e
          · omega
        have hlen : (EN f g).length ≤ a.toNat := by
          have := congrArg List.length hd0
          rw [List.length_drop, List.length_nil] at this
          omega
        refine ⟨congrArg some ?_, ⟨_, _, _, _, rfl⟩⟩
        unfold V_mk
        first
          | (rw [if_pos (by omega)]; omega)
          | (rw [if_neg (by omega), if_neg (by omega)])
    · dsimp only [cmpI] at c67
      refine AW.go 1 (pc' := 72) rfl ?_
      obtain ⟨-, hc9, hd9⟩ : x7 = 1 ∧ (∀ j, j ≤ q → 0 ≤ c j ∧ c j < ((gM f g 48).length : Int)) ∧ (EN f g).drop a.toNat = pr (gM f g 48) c (q + 1) :: rm (sS f g) (gM f g 48) (fs0 f g) q c (q + 1) := by
        rcases hs with ⟨e, -⟩ | e
        · omega
        · exact e
      obtain ⟨hz1, hz2, hz3⟩ := drop_hit hd9
      refine AW.go 1 (pc' := 73) rfl ?_
      refine AW.bi (tgt := 122) (pn := 76) rfl (by decide) rfl (by first | exact bI_rng _ | exact ⟨by omega, by omega⟩) (by first | exact bI_rng _ | exact ⟨by omega, by omega⟩) (fun c73 => ?_) (fun c73 => ?_)
      · dsimp only [cmpI] at c73
        refine AW.go 5 (pc' := 130) rfl ?_
        refine AW.callV (pn := 133) rfl rfl mlX4_165 (by first | assumption | exact HM_29 hl | exact HM_34 hl | exact HM_35 hl | exact HM_36 hl | exact (HM_ne (by first | decide | omega) (by first | decide | omega) (by first | decide | omega) (by first | decide | omega)).trans (by assumption)) (c_X4_isNext (d - 1) (by omega) h hl pm rf ka wr m hM hm r rr f hf g hg (gM f g 48) (gM_len f g 48) GF GS hS q (by rcases hg with rfl | rfl <;> omega) (rm (sS f g) (gM f g 48) (fs0 f g) q c (q + 1)) c hc9 rfl) rfl rfl (Nat.le_of_ble_eq_true rfl) ⟨by show d - 1 + 1 ≤ d; omega, by show 40 * (d - 1 + 1) ≤ 40 * d; omega⟩ ⟨Nat.zero_le _, Nat.zero_le _⟩ ?_
        intro v u hq9
        obtain ⟨c8, rfl, hv9⟩ := hq9
        rcases hv9 with ⟨rfl, hv9⟩ | ⟨rfl, hv8, hv9⟩
        · dsimp only [Option.toList, List.map, List.cons_append, List.nil_append]
          refine AW.go 2 (pc' := 65) rfl ?_
          refine AW.lw ?_ (ih (a + 1) 0 c8 (by omega) (by omega) (by omega) (Or.inl ⟨rfl, by rw [k1 h0, hz3]; exact hv9⟩) (by omega))
          exact (And.intro rfl (And.intro rfl (And.intro rfl (And.intro rfl (And.intro rfl (And.intro rfl (And.intro rfl (And.intro rfl trivial))))))))
        · dsimp only [Option.toList, List.map, List.cons_append, List.nil_append]
          refine AW.go 2 (pc' := 65) rfl ?_
          refine AW.lw ?_ (ih (a + 1) 1 c8 (by omega) (by omega) (by omega) (Or.inr ⟨rfl, hv8, by rw [k1 h0, hz3]; exact hv9⟩) (by omega))
          exact (And.intro rfl (And.intro rfl (And.intro rfl (And.intro rfl (And.intro rfl (And.intro rfl (And.intro rfl (And.intro rfl trivial))))))))
      · dsimp only [cmpI] at c73
        refine AW.go 2 (pc' := 79) rfl ?_
        refine AW.idiv (pn := 80) rfl rfl (by omega) (by omega) (by omega) (by omega) ?_
        refine AW.go 2 (pc' := 84) rfl ?_
        have pg1 : p / (g : Int) ≤ 3 := by rcases hg with rfl | rfl <;> omega
        have pg0 : 0 ≤ p / (g : Int) := by rcases hg with rfl | rfl <;> omega
        refine AW.br (tgt := 97) (pn := 87) rfl (by decide) rfl (by first | exact bI_rng _ | exact ⟨by omega, by omega⟩) (fun c84 => ?_) (fun c84 => ?_)
        · dsimp only [cmpI] at c84
          refine AW.go 4 (pc' := 101) rfl ?_
          refine AW.getf (pn := 104) rfl rfl flX4_22 (by first | assumption | exact HM_29 hl | exact HM_34 hl | exact HM_35 hl | exact HM_36 hl | exact (HM_ne (by first | decide | omega) (by first | decide | omega) (by first | decide | omega) (by first | decide | omega)).trans (by assumption)) rfl ?_
          refine AW.go 1 (pc' := 105) rfl ?_
          refine AW.getf (pn := 108) rfl rfl flX4_28 (by first | assumption | exact HM_29 hl | exact HM_34 hl | exact HM_35 hl | exact HM_36 hl | exact (HM_ne (by first | decide | omega) (by first | decide | omega) (by first | decide | omega) (by first | decide | omega)).trans (by assumption)) rfl ?_
          refine AW.go 3 (pc' := 112) rfl ?_
          have pg2 : p / (g : Int) ≤ (q : Int) + 1 := by rcases hg with rfl | rfl <;> omega
          have pq : q ≤ 2 := by rcases hg with rfl | rfl <;> omega
          have c1 := hc9 (p / (g : Int) - 1).toNat (by omega)
          refine AW.iald (pn := 113) rfl rfl (by first | assumption | exact HM_29 hl | exact HM_34 hl | exact HM_35 hl | exact HM_36 hl | exact (HM_ne (by first | decide | omega) (by first | decide | omega) (by first | decide | omega) (by first | decide | omega)).trans (by assumption)) (by first | decide | omega) (by omega) (by omega) ?_
          have c2 := gM_len f g 48
          refine AW.iald (pn := 114) rfl rfl (by first | assumption | exact HM_29 hl | exact HM_34 hl | exact HM_35 hl | exact HM_36 hl | exact (HM_ne (by first | decide | omega) (by first | decide | omega) (by first | decide | omega) (by first | decide | omega)).trans (by assumption)) (by first | decide | omega) (by omega) (by omega) ?_
          rw [(hS (c (p / (g : Int) - 1).toNat).toNat (by omega)).1]
          refine AW.go 2 (pc' := 117) rfl ?_
          refine AW.irem (pn := 118) rfl rfl (by omega) (by omega) (by omega) (by omega) ?_
          have c3 := gD_lt (fun x hx => gM_mem f g 48 x hx) (show (c (p / (g : Int) - 1).toNat).toNat < (gM f g 48).length by omega)
          have c4 : 0 ≤ p % (g : Int) ∧ p % (g : Int) < (g : Int) := by rcases hg with rfl | rfl <;> omega
          refine AW.callVF (pn := 121) rfl rfl mlX4_138 (by first | assumption | exact HM_29 hl | exact HM_34 hl | exact HM_35 hl | exact HM_36 hl | exact (HM_ne (by first | decide | omega) (by first | decide | omega) (by first | decide | omega) (by first | decide | omega)).trans (by assumption)) (c_X4_groupAt (d - 1) (by omega) _ _ _ _ _ _ (HM_29 hl) m ((HM_ne (by decide) (by decide) (by decide) (by decide)).trans hM) hm _ _ _ _ (by omega) (by omega) (by omega) (by omega)) rfl rfl (Nat.le_of_ble_eq_true rfl) ⟨by show d - 1 + 1 ≤ d; omega, by show 40 * (d - 1 + 1) ≤ 40 * d; omega⟩ ⟨Nat.zero_le _, Nat.zero_le _⟩ ?_
          refine AW.ret rfl rfl (Nat.le_refl _) (Nat.le_refl _) ?_
          refine ⟨congrArg some ?_, ⟨_, _, _, _, rfl⟩⟩
          subst hf
          unfold V_mk
          rw [if_neg (by omega), if_pos (by omega)]
          first
            | (rw [if_pos (by rcases hg with rfl | rfl <;> omega)]; done)
            | (rw [if_neg (by rcases hg with rfl | rfl <;> omega), show i.toNat = a.toNat by omega, hz2]
               unfold tv
               have pp : (p.toNat - g) / g = (p / (g : Int) - 1).toNat := by rcases hg with rfl | rfl <;> omega
               have pq2 : (((p.toNat - g) % g : Nat) : Int) = p % (g : Int) := by rcases hg with rfl | rfl <;> omega
               rw [pp, pq2, pr_at (by omega)])
        · dsimp only [cmpI] at c84
          refine AW.go 3 (pc' := 91) rfl ?_
          have pg3 : p < 12 := rp.2
          refine AW.callVF (pn := 94) rfl rfl mlX4_89 (by first | assumption | exact HM_29 hl | exact HM_34 hl | exact HM_35 hl | exact HM_36 hl | exact (HM_ne (by first | decide | omega) (by first | decide | omega) (by first | decide | omega) (by first | decide | omega)).trans (by assumption)) (c_X4_toneAt (d - 1) (by omega) _ _ _ _ _ _ (HM_29 hl) m ((HM_ne (by decide) (by decide) (by decide) (by decide)).trans hM) hm _ _ (by omega) (by omega)) rfl rfl (Nat.le_of_ble_eq_true rfl) ⟨by show d - 1 + 1 ≤ d; omega, by show 40 * (d - 1 + 1) ≤ 40 * d; omega⟩ ⟨Nat.zero_le _, Nat.zero_le _⟩ ?_
          refine AW.go 1 (pc' := 121) rfl ?_
          refine AW.ret rfl rfl (Nat.le_refl _) (Nat.le_refl _) ?_
          refine ⟨congrArg some ?_, ⟨_, _, _, _, rfl⟩⟩
          subst hf
          unfold V_mk
          rw [if_neg (by omega), if_pos (by omega)]
          first
            | (rw [if_pos (by rcases hg with rfl | rfl <;> omega)]; done)
            | (rw [if_neg (by rcases hg with rfl | rfl <;> omega), show i.toNat = a.toNat by omega, hz2]
               unfold tv
               have pp : (p.toNat - g) / g = (p / (g : Int) - 1).toNat := by rcases hg with rfl | rfl <;> omega
               have pq2 : (((p.toNat - g) % g : Nat) : Int) = p % (g : Int) := by rcases hg with rfl | rfl <;> omega
               rw [pp, pq2, pr_at (by omega)])
set_option maxHeartbeats 2000000 in
theorem c_X4_making (d : Nat) (hd : 6 ≤ d) (h : List AC) (hl : 37 ≤ h.length) (pm rf gm ka wr : Int) (m : Nat → Int) (hM : h[30]? = some (ai 0 48 m)) (hm : mt m) (GF0 GS0 C0 : Nat → Int) (r N i p : Int) (rr : -2147483648 ≤ r ∧ r < 2147483648) (rN : -2147483648 ≤ N ∧ N < 2147483648) (ri : -2147483648 ≤ i ∧ i < 2147483648) (rp : -2147483648 ≤ p ∧ p < 2147483648) : M0 zX4_making d [vr 29, vi r, vi N, vi i, vi p] (HM h pm rf gm ka wr GF0 GS0 C0) (fun v u => v = some (V_making m r N i p) ∧ ∃ (m9 : Int) (F9 S9 C9 : Nat → Int), u = HM h pm rf m9 ka wr F9 S9 C9) := by
  refine M0.of okX4_making (Nat.le_of_ble_eq_true rfl) ?_
  refine AW.go 1 (pc' := 1) rfl ?_
  refine AW.callSF (pn := 4) rfl rfl mlX4_79 (c_X4_isRow (d - 1) (by omega) _ _ (by omega)) rfl rfl (Nat.le_of_ble_eq_true rfl) ⟨by show d - 1 + 1 ≤ d; omega, by show 40 * (d - 1 + 1) ≤ 40 * d; omega⟩ ⟨Nat.zero_le _, Nat.zero_le _⟩ ?_
  refine AW.bnz (tgt := 9) (pn := 7) rfl (by decide) rfl (fun c4 => ?_) (fun c4 => ?_)
  · refine AW.go 1 (pc' := 10) rfl ?_
    refine AW.i2l (pn := 11) rfl rfl (by first | exact bI_rng _ | exact ⟨by omega, by omega⟩) ?_
    refine AW.ldc2 (pn := 14) rfl rfl clX4_38 ?_
    refine AW.ldc2 (pn := 17) rfl rfl clX4_160 ?_
    refine AW.callSF (pn := 20) rfl rfl mlX4_40 (c_X4_in (d - 1) (by omega) _ _ _ _ (by omega) (by omega) (by omega)) rfl rfl (Nat.le_of_ble_eq_true rfl) ⟨by show d - 1 + 1 ≤ d; omega, by show 40 * (d - 1 + 1) ≤ 40 * d; omega⟩ ⟨Nat.zero_le _, Nat.zero_le _⟩ ?_
    refine AW.bz (tgt := 41) (pn := 23) rfl (by decide) rfl (fun c20 => ?_) (fun c20 => ?_)
    · refine AW.go 1 (pc' := 43) rfl ?_
      refine AW.ret rfl rfl (Nat.le_refl _) (Nat.le_refl _) ?_
      refine ⟨congrArg some ?_, ⟨_, _, _, _, rfl⟩⟩
      unfold V_making
      rw [if_pos c4, if_neg (by omega)]
    · refine AW.go 1 (pc' := 25) rfl ?_
      refine AW.callSF (pn := 28) rfl rfl mlX4_86 (c_X4_isPlace (d - 1) (by omega) _ _ (by omega)) rfl rfl (Nat.le_of_ble_eq_true rfl) ⟨by show d - 1 + 1 ≤ d; omega, by show 40 * (d - 1 + 1) ≤ 40 * d; omega⟩ ⟨Nat.zero_le _, Nat.zero_le _⟩ ?_
      refine AW.bz (tgt := 41) (pn := 31) rfl (by decide) rfl (fun c28 => ?_) (fun c28 => ?_)
      · refine AW.go 1 (pc' := 43) rfl ?_
        refine AW.ret rfl rfl (Nat.le_refl _) (Nat.le_refl _) ?_
        refine ⟨congrArg some ?_, ⟨_, _, _, _, rfl⟩⟩
        unfold V_making
        rw [if_pos c4, if_neg (by omega)]
      · refine AW.go 2 (pc' := 33) rfl ?_
        refine AW.bi (tgt := 44) (pn := 36) rfl (by decide) rfl (by first | exact bI_rng _ | exact ⟨by omega, by omega⟩) (by first | exact bI_rng _ | exact ⟨by omega, by omega⟩) (fun c33 => ?_) (fun c33 => ?_)
        · dsimp only [cmpI] at c33
          refine AW.go 1 (pc' := 46) rfl ?_
          obtain ⟨g, rfl⟩ : ∃ g : Nat, N = (g : Int) := ⟨N.toNat, by omega⟩
          have hg : g = 3 ∨ g = 4 := by omega
          refine AW.go 1 (pc' := 47) rfl ?_
          refine AW.idiv (pn := 48) rfl rfl (by omega) (by omega) (by omega) (by omega) ?_
          refine AW.go 9 (pc' := 60) rfl ?_
          rw [show 12 / (g : Int) - 2 = ((12 / g - 2 : Nat) : Int) by rcases hg with rfl | rfl <;> rfl]
          refine AW.callV (pn := 63) rfl rfl mlX4_162 (by first | assumption | exact HM_29 hl | exact HM_34 hl | exact HM_35 hl | exact HM_36 hl | exact (HM_ne (by first | decide | omega) (by first | decide | omega) (by first | decide | omega) (by first | decide | omega)).trans (by assumption)) (c_X4_isFirst (d - 1) (by omega) h hl pm rf ka wr m hM hm r (by omega) (rwm m r) rfl g hg (12 / g - 2) (by rcases hg with rfl | rfl <;> decide) C0 gm GF0 GS0) rfl rfl (Nat.le_of_ble_eq_true rfl) ⟨by show d - 1 + 1 ≤ d; omega, by show 40 * (d - 1 + 1) ≤ 40 * d; omega⟩ ⟨Nat.zero_le _, Nat.zero_le _⟩ ?_
          intro v u hq9
          obtain ⟨GF, GS, c8, rfl, hS, hv9⟩ := hq9
          rw [EN_q rfl hg] at hv9
          have hfin : ∀ v u, (fun v u => v = some (V_mk (rwm m r) g i p) ∧ ∃ (m9 : Int) (F9 S9 C9 : Nat → Int), u = HM h pm rf m9 ka wr F9 S9 C9 : Option Int → List AC → Prop) v u → v = some (V_making m r (g : Int) i p) ∧ ∃ (m9 : Int) (F9 S9 C9 : Nat → Int), u = HM h pm rf m9 ka wr F9 S9 C9 := by
            intro v u hq
            refine ⟨hq.1.trans (congrArg some ?_), hq.2⟩
            unfold V_making
            rw [if_pos c4, if_pos (by omega), Int.toNat_natCast]
          rcases hv9 with ⟨rfl, hv9⟩ | ⟨rfl, hv8, hv9⟩
          · dsimp only [Option.toList, List.map, List.cons_append, List.nil_append]
            refine AW.go 1 (pc' := 65) rfl ?_
            refine AW.post (AW.lw ?_ (l_X4_making d (by omega) h hl pm rf ka wr m hM hm r (by omega) (rwm m r) rfl g hg (12 / g - 2) rfl GF GS hS i p ri (by omega) _ 0 0 c8 (by omega) (by omega) (by omega) (Or.inl ⟨rfl, hv9⟩) (Nat.lt_succ_self _))) hfin
            exact (And.intro rfl (And.intro rfl (And.intro rfl (And.intro rfl (And.intro rfl (And.intro rfl (And.intro rfl (And.intro rfl trivial))))))))
          · dsimp only [Option.toList, List.map, List.cons_append, List.nil_append]
            refine AW.go 1 (pc' := 65) rfl ?_
            refine AW.post (AW.lw ?_ (l_X4_making d (by omega) h hl pm rf ka wr m hM hm r (by omega) (rwm m r) rfl g hg (12 / g - 2) rfl GF GS hS i p ri (by omega) _ 0 1 c8 (by omega) (by omega) (by omega) (Or.inr ⟨rfl, hv8, hv9⟩) (Nat.lt_succ_self _))) hfin
            exact (And.intro rfl (And.intro rfl (And.intro rfl (And.intro rfl (And.intro rfl (And.intro rfl (And.intro rfl (And.intro rfl trivial))))))))
        · dsimp only [cmpI] at c33
          refine AW.go 1 (pc' := 38) rfl ?_
          refine AW.br (tgt := 44) (pn := 41) rfl (by decide) rfl (by first | exact bI_rng _ | exact ⟨by omega, by omega⟩) (fun c38 => ?_) (fun c38 => ?_)
          · dsimp only [cmpI] at c38
            refine AW.go 1 (pc' := 46) rfl ?_
            obtain ⟨g, rfl⟩ : ∃ g : Nat, N = (g : Int) := ⟨N.toNat, by omega⟩
            have hg : g = 3 ∨ g = 4 := by omega
            refine AW.go 1 (pc' := 47) rfl ?_
            refine AW.idiv (pn := 48) rfl rfl (by omega) (by omega) (by omega) (by omega) ?_
            refine AW.go 9 (pc' := 60) rfl ?_
            rw [show 12 / (g : Int) - 2 = ((12 / g - 2 : Nat) : Int) by rcases hg with rfl | rfl <;> rfl]
            refine AW.callV (pn := 63) rfl rfl mlX4_162 (by first | assumption | exact HM_29 hl | exact HM_34 hl | exact HM_35 hl | exact HM_36 hl | exact (HM_ne (by first | decide | omega) (by first | decide | omega) (by first | decide | omega) (by first | decide | omega)).trans (by assumption)) (c_X4_isFirst (d - 1) (by omega) h hl pm rf ka wr m hM hm r (by omega) (rwm m r) rfl g hg (12 / g - 2) (by rcases hg with rfl | rfl <;> decide) C0 gm GF0 GS0) rfl rfl (Nat.le_of_ble_eq_true rfl) ⟨by show d - 1 + 1 ≤ d; omega, by show 40 * (d - 1 + 1) ≤ 40 * d; omega⟩ ⟨Nat.zero_le _, Nat.zero_le _⟩ ?_
            intro v u hq9
            obtain ⟨GF, GS, c8, rfl, hS, hv9⟩ := hq9
            rw [EN_q rfl hg] at hv9
            have hfin : ∀ v u, (fun v u => v = some (V_mk (rwm m r) g i p) ∧ ∃ (m9 : Int) (F9 S9 C9 : Nat → Int), u = HM h pm rf m9 ka wr F9 S9 C9 : Option Int → List AC → Prop) v u → v = some (V_making m r (g : Int) i p) ∧ ∃ (m9 : Int) (F9 S9 C9 : Nat → Int), u = HM h pm rf m9 ka wr F9 S9 C9 := by
              intro v u hq
              refine ⟨hq.1.trans (congrArg some ?_), hq.2⟩
              unfold V_making
              rw [if_pos c4, if_pos (by omega), Int.toNat_natCast]
            rcases hv9 with ⟨rfl, hv9⟩ | ⟨rfl, hv8, hv9⟩
            · dsimp only [Option.toList, List.map, List.cons_append, List.nil_append]
              refine AW.go 1 (pc' := 65) rfl ?_
              refine AW.post (AW.lw ?_ (l_X4_making d (by omega) h hl pm rf ka wr m hM hm r (by omega) (rwm m r) rfl g hg (12 / g - 2) rfl GF GS hS i p ri (by omega) _ 0 0 c8 (by omega) (by omega) (by omega) (Or.inl ⟨rfl, hv9⟩) (Nat.lt_succ_self _))) hfin
              exact (And.intro rfl (And.intro rfl (And.intro rfl (And.intro rfl (And.intro rfl (And.intro rfl (And.intro rfl (And.intro rfl trivial))))))))
            · dsimp only [Option.toList, List.map, List.cons_append, List.nil_append]
              refine AW.go 1 (pc' := 65) rfl ?_
              refine AW.post (AW.lw ?_ (l_X4_making d (by omega) h hl pm rf ka wr m hM hm r (by omega) (rwm m r) rfl g hg (12 / g - 2) rfl GF GS hS i p ri (by omega) _ 0 1 c8 (by omega) (by omega) (by omega) (Or.inr ⟨rfl, hv8, hv9⟩) (Nat.lt_succ_self _))) hfin
              exact (And.intro rfl (And.intro rfl (And.intro rfl (And.intro rfl (And.intro rfl (And.intro rfl (And.intro rfl (And.intro rfl trivial))))))))
          · dsimp only [cmpI] at c38
            refine AW.go 1 (pc' := 43) rfl ?_
            refine AW.ret rfl rfl (Nat.le_refl _) (Nat.le_refl _) ?_
            refine ⟨congrArg some ?_, ⟨_, _, _, _, rfl⟩⟩
            unfold V_making
            rw [if_pos c4, if_neg (by omega)]
  · refine AW.go 1 (pc' := 8) rfl ?_
    refine AW.ret rfl rfl (Nat.le_refl _) (Nat.le_refl _) ?_
    refine ⟨congrArg some ?_, ⟨_, _, _, _, rfl⟩⟩
    unfold V_making
    rw [if_neg c4]
