def HM (h : List AC) (pm rf gm ka wr : Int) (GF GS C : Nat → Int) : List AC := (((h.set 29 (ao 4 (mo pm rf gm ka wr))).set 34 (ai 0 48 GF)).set 35 (ai 0 48 GS)).set 36 (ai 0 3 C)
section HMs
variable {h : List AC} {pm rf gm ka wr gm9 : Int} {GF GS C GF9 GS9 C9 : Nat → Int}
theorem HM_len : (HM h pm rf gm ka wr GF GS C).length = h.length := by
  unfold HM; rw [List.length_set, List.length_set, List.length_set, List.length_set]
theorem HM_29 (hl : 37 ≤ h.length) : (HM h pm rf gm ka wr GF GS C)[29]? = some (ao 4 (mo pm rf gm ka wr)) := by
  unfold HM; rw [set_out (by decide), set_out (by decide), set_out (by decide), List.getElem?_set_self (by omega)]
theorem HM_34 (hl : 37 ≤ h.length) : (HM h pm rf gm ka wr GF GS C)[34]? = some (ai 0 48 GF) := by
  unfold HM; rw [set_out (by decide), set_out (by decide), List.getElem?_set_self (by rw [List.length_set]; omega)]
theorem HM_35 (hl : 37 ≤ h.length) : (HM h pm rf gm ka wr GF GS C)[35]? = some (ai 0 48 GS) := by
  unfold HM; rw [set_out (by decide), List.getElem?_set_self (by rw [List.length_set, List.length_set]; omega)]
theorem HM_36 (hl : 37 ≤ h.length) : (HM h pm rf gm ka wr GF GS C)[36]? = some (ai 0 3 C) := by
  unfold HM; rw [List.getElem?_set_self (by rw [List.length_set, List.length_set, List.length_set]; omega)]
theorem HM_ne {j : Nat} (h1 : j ≠ 29) (h2 : j ≠ 34) (h3 : j ≠ 35) (h4 : j ≠ 36) : (HM h pm rf gm ka wr GF GS C)[j]? = h[j]? := by
  unfold HM; rw [set_out h4.symm, set_out h3.symm, set_out h2.symm, set_out h1.symm]
theorem HM_s29 : (HM h pm rf gm ka wr GF GS C).set 29 (ao 4 (mo pm rf gm9 ka wr)) = HM h pm rf gm9 ka wr GF GS C := by
  unfold HM; rw [List.set_comm _ _ (show (36 : Nat) ≠ 29 by decide), List.set_comm _ _ (show (35 : Nat) ≠ 29 by decide), List.set_comm _ _ (show (34 : Nat) ≠ 29 by decide), List.set_set]
theorem HM_s34 : (HM h pm rf gm ka wr GF GS C).set 34 (ai 0 48 GF9) = HM h pm rf gm ka wr GF9 GS C := by
  unfold HM; rw [List.set_comm _ _ (show (36 : Nat) ≠ 34 by decide), List.set_comm _ _ (show (35 : Nat) ≠ 34 by decide), List.set_set]
theorem HM_s35 : (HM h pm rf gm ka wr GF GS C).set 35 (ai 0 48 GS9) = HM h pm rf gm ka wr GF GS9 C := by
  unfold HM; rw [List.set_comm _ _ (show (36 : Nat) ≠ 35 by decide), List.set_set]
theorem HM_s36 : (HM h pm rf gm ka wr GF GS C).set 36 (ai 0 3 C9) = HM h pm rf gm ka wr GF GS C9 := by
  unfold HM; rw [List.set_set]
theorem HM_id (h1 : h[29]? = some (ao 4 (mo pm rf gm ka wr))) (h2 : h[34]? = some (ai 0 48 GF)) (h3 : h[35]? = some (ai 0 48 GS)) (h4 : h[36]? = some (ai 0 3 C)) : (HM h pm rf gm ka wr GF GS C) = h := by
  unfold HM; rw [set_same h1, set_same h2, set_same h3, set_same h4]
end HMs
def SM (f : Nat → Int) (n : Nat) (GF GS : Nat → Int) (L : List Nat) : Prop := ∀ j, j < L.length → GF j = (L.getD j 0 : Int) ∧ GS j = (sS f n (L.getD j 0) : Int)
theorem up_up (f : Nat → Int) (k : Nat) (a b : Int) : up (up f k a) k b = up f k b := by
  funext j
  unfold up
  by_cases q : j = k
  · rw [if_pos q, if_pos q]
  · rw [if_neg q, if_neg q, if_neg q]

set_option maxHeartbeats 4000000 in
theorem l3_X4_addGroup (d : Nat) (hd : 4 ≤ d) (h : List AC) (hl : 37 ≤ h.length) (pm rf ka wr : Int) (m : Nat → Int) (hM : h[30]? = some (ai 0 48 m)) (hm : mt m) (r : Int) (rr : 0 ≤ r ∧ r < 4) (f : Nat → Int) (hf : f = rwm m r) (g : Nat) (hg : g = 3 ∨ g = 4) (C : Nat → Int) (L : List Nat) (hL : L.length < 48) (hb : ∀ x ∈ L, x < 48) (GF GS : Nat → Int) (hS : SM f g GF GS L) (F : Nat) (rF : F < 48) (a : Int) (h0 : 0 ≤ a) (ha : a.toNat ≤ L.length) (he : insF f g F L = insA L a.toNat F) : ∀ (n : Nat) (k : Int), (0 ≤ k) → (k ≤ (g : Int)) → (((g : Int) - k).toNat) < n → AW zX4_addGroup Eq (rmd d) 0 0 0 0 132 [(5, vi k), (4, vi a), (0, vr 29), (1, vi r), (2, vi (g : Int)), (3, vi (F : Int))] [] (HM h pm rf (L.length : Int) ka wr (up (shf GF a.toNat L.length) a.toNat (F : Int)) (up (shf GS a.toNat L.length) a.toNat (gs f g F k.toNat : Int)) C) (fun v u => v = none ∧ ∃ GF9 GS9 : Nat → Int, u = (HM h pm rf ((insF f g F L).length : Int) ka wr GF9 GS9 C) ∧ SM f g GF9 GS9 (insF f g F L)) := by
  intro n
  induction n with
  | zero =>
    intro k h1 h2 hn
    exact absurd hn (Nat.not_lt_zero _)
  | succ n ih =>
    intro k h1 h2 hn
    refine AW.go 2 (pc' := 135) rfl ?_
    refine AW.bi (tgt := 165) (pn := 138) rfl (by decide) rfl (by first | exact bI_rng _ | exact ⟨by omega, by omega⟩) (by first | exact bI_rng _ | exact ⟨by omega, by omega⟩) (fun c135 => ?_) (fun c135 => ?_)
    · dsimp only [cmpI] at c135
      refine AW.go 2 (pc' := 167) rfl ?_
      refine AW.getf (pn := 170) rfl rfl flX4_144 (by first | assumption | exact HM_29 hl | exact HM_34 hl | exact HM_35 hl | exact HM_36 hl | exact (HM_ne (by first | decide | omega) (by first | decide | omega) (by first | decide | omega) (by first | decide | omega)).trans (by assumption)) rfl ?_
      refine AW.go 2 (pc' := 172) rfl ?_
      refine AW.putf (pn := 175) rfl rfl flX4_144 (by first | assumption | exact HM_29 hl | exact HM_34 hl | exact HM_35 hl | exact HM_36 hl | exact (HM_ne (by first | decide | omega) (by first | decide | omega) (by first | decide | omega) (by first | decide | omega)).trans (by assumption)) rfl (by first | trivial | exact bI_01 _ | exact Or.inl rfl | exact Or.inr rfl) ?_
      refine AW.retv rfl rfl (Nat.le_refl _) (Nat.le_refl _) ?_
      rw [show k.toNat = g by omega]
      refine ⟨rfl, up (shf GF a.toNat L.length) a.toNat (F : Int), up (shf GS a.toNat L.length) a.toNat (sS f g F : Int), ?_, ?_⟩
      · refine HM_s29.trans ?_
        rw [he, insA_len, show ((L.length + 1 : Nat) : Int) = (L.length : Int) + 1 by omega]
        rfl
      · rw [he]
        intro j hj9
        rw [insA_len] at hj9
        exact ⟨ins_at (v := fun x => x) ha (fun j hj => (hS j hj).1) j hj9, ins_at ha (fun j hj => (hS j hj).2) j hj9⟩
    · dsimp only [cmpI] at c135
      refine AW.go 1 (pc' := 139) rfl ?_
      refine AW.getf (pn := 142) rfl rfl flX4_25 (by first | assumption | exact HM_29 hl | exact HM_34 hl | exact HM_35 hl | exact HM_36 hl | exact (HM_ne (by first | decide | omega) (by first | decide | omega) (by first | decide | omega) (by first | decide | omega)).trans (by assumption)) rfl ?_
      refine AW.go 2 (pc' := 145) rfl ?_
      refine AW.iald (pn := 146) rfl rfl (by first | assumption | exact HM_29 hl | exact HM_34 hl | exact HM_35 hl | exact HM_36 hl | exact (HM_ne (by first | decide | omega) (by first | decide | omega) (by first | decide | omega) (by first | decide | omega)).trans (by assumption)) (by first | decide | omega) (by omega) (by omega) ?_
      rw [up_at]
      refine AW.go 6 (pc' := 153) rfl ?_
      refine AW.callVF (pn := 156) rfl rfl mlX4_138 (by first | assumption | exact HM_29 hl | exact HM_34 hl | exact HM_35 hl | exact HM_36 hl | exact (HM_ne (by first | decide | omega) (by first | decide | omega) (by first | decide | omega) (by first | decide | omega)).trans (by assumption)) (c_X4_groupAt (d - 1) (by omega) _ _ _ _ _ _ (HM_29 hl) m ((HM_ne (by decide) (by decide) (by decide) (by decide)).trans hM) hm _ _ _ _ (by omega) (by omega) (by omega) (by omega)) rfl rfl (Nat.le_of_ble_eq_true rfl) ⟨by show d - 1 + 1 ≤ d; omega, by show 40 * (d - 1 + 1) ≤ 40 * d; omega⟩ ⟨Nat.zero_le _, Nat.zero_le _⟩ ?_
      subst hf
      have b0 := ft_b (rwm m r) (g : Int) (F : Int) k
      refine AW.shl1 (pn := 157) rfl rfl (by omega) (by omega) ?_
      first | refine AW.orN (pn := 158) rfl rfl ?_ | refine AW.orN (y := 0) (pn := 158) rfl rfl ?_
      refine AW.iast (pn := 159) rfl rfl (by first | assumption | exact HM_29 hl | exact HM_34 hl | exact HM_35 hl | exact HM_36 hl | exact (HM_ne (by first | decide | omega) (by first | decide | omega) (by first | decide | omega) (by first | decide | omega)).trans (by assumption)) (by first | decide | omega) (by omega) (by omega) ?_
      refine AW.go 2 (pc' := 132) rfl ?_
      refine AW.hp HM_s35 ?_
      have b2 : gs (rwm m r) g F k.toNat ||| 2 ^ (ft (rwm m r) (g : Int) (F : Int) k).toNat = gs (rwm m r) g F (k + 1).toNat := by
        rw [k1 h1]
        show _ = gs (rwm m r) g F k.toNat ||| 2 ^ (ft (rwm m r) (g : Int) (F : Int) ((k.toNat : Nat) : Int)).toNat
        rw [kk h1]
      rw [b2, up_up]
      refine AW.lw ?_ (ih (k + 1) (by omega) (by omega) (by omega))
      exact (And.intro rfl (And.intro rfl (And.intro rfl (And.intro rfl (And.intro rfl (And.intro rfl trivial))))))
set_option maxHeartbeats 4000000 in
theorem l2_X4_addGroup (d : Nat) (hd : 4 ≤ d) (h : List AC) (hl : 37 ≤ h.length) (pm rf ka wr : Int) (m : Nat → Int) (hM : h[30]? = some (ai 0 48 m)) (hm : mt m) (r : Int) (rr : 0 ≤ r ∧ r < 4) (f : Nat → Int) (hf : f = rwm m r) (g : Nat) (hg : g = 3 ∨ g = 4) (C : Nat → Int) (L : List Nat) (hL : L.length < 48) (hb : ∀ x ∈ L, x < 48) (GF GS : Nat → Int) (hS : SM f g GF GS L) (F : Nat) (rF : F < 48) (a : Int) (h0 : 0 ≤ a) (ha : a.toNat ≤ L.length) (he : insF f g F L = insA L a.toNat F) : ∀ (n : Nat) (k : Int), (a ≤ k) → (k ≤ (L.length : Int)) → ((k - a).toNat) < n → AW zX4_addGroup Eq (rmd d) 0 0 0 0 68 [(5, vi k), (4, vi a), (0, vr 29), (1, vi r), (2, vi (g : Int)), (3, vi (F : Int))] [] (HM h pm rf (L.length : Int) ka wr (shf GF k.toNat L.length) (shf GS k.toNat L.length) C) (fun v u => v = none ∧ ∃ GF9 GS9 : Nat → Int, u = (HM h pm rf ((insF f g F L).length : Int) ka wr GF9 GS9 C) ∧ SM f g GF9 GS9 (insF f g F L)) := by
  intro n
  induction n with
  | zero =>
    intro k h1 h2 hn
    exact absurd hn (Nat.not_lt_zero _)
  | succ n ih =>
    intro k h1 h2 hn
    refine AW.go 2 (pc' := 72) rfl ?_
    refine AW.bi (tgt := 113) (pn := 75) rfl (by decide) rfl (by first | exact bI_rng _ | exact ⟨by omega, by omega⟩) (by first | exact bI_rng _ | exact ⟨by omega, by omega⟩) (fun c72 => ?_) (fun c72 => ?_)
    · dsimp only [cmpI] at c72
      refine AW.go 1 (pc' := 114) rfl ?_
      refine AW.getf (pn := 117) rfl rfl flX4_22 (by first | assumption | exact HM_29 hl | exact HM_34 hl | exact HM_35 hl | exact HM_36 hl | exact (HM_ne (by first | decide | omega) (by first | decide | omega) (by first | decide | omega) (by first | decide | omega)).trans (by assumption)) rfl ?_
      refine AW.go 2 (pc' := 120) rfl ?_
      refine AW.iast (pn := 121) rfl rfl (by first | assumption | exact HM_29 hl | exact HM_34 hl | exact HM_35 hl | exact HM_36 hl | exact (HM_ne (by first | decide | omega) (by first | decide | omega) (by first | decide | omega) (by first | decide | omega)).trans (by assumption)) (by first | decide | omega) (by omega) (by omega) ?_
      refine AW.go 1 (pc' := 122) rfl ?_
      refine AW.hp HM_s34 ?_
      refine AW.getf (pn := 125) rfl rfl flX4_25 (by first | assumption | exact HM_29 hl | exact HM_34 hl | exact HM_35 hl | exact HM_36 hl | exact (HM_ne (by first | decide | omega) (by first | decide | omega) (by first | decide | omega) (by first | decide | omega)).trans (by assumption)) rfl ?_
      refine AW.go 2 (pc' := 128) rfl ?_
      refine AW.iast (pn := 129) rfl rfl (by first | assumption | exact HM_29 hl | exact HM_34 hl | exact HM_35 hl | exact HM_36 hl | exact (HM_ne (by first | decide | omega) (by first | decide | omega) (by first | decide | omega) (by first | decide | omega)).trans (by assumption)) (by first | decide | omega) (by omega) (by omega) ?_
      refine AW.go 2 (pc' := 132) rfl ?_
      refine AW.hp HM_s35 ?_
      rw [show k = a by omega]
      refine AW.lw ?_ (l3_X4_addGroup d hd h hl pm rf ka wr m hM hm r rr f hf g hg C L hL hb GF GS hS F rF a h0 ha he _ 0 (by omega) (by omega) (Nat.lt_succ_self _))
      exact (And.intro rfl (And.intro rfl (And.intro rfl (And.intro rfl (And.intro rfl (And.intro rfl trivial))))))
    · dsimp only [cmpI] at c72
      refine AW.go 1 (pc' := 76) rfl ?_
      refine AW.getf (pn := 79) rfl rfl flX4_22 (by first | assumption | exact HM_29 hl | exact HM_34 hl | exact HM_35 hl | exact HM_36 hl | exact (HM_ne (by first | decide | omega) (by first | decide | omega) (by first | decide | omega) (by first | decide | omega)).trans (by assumption)) rfl ?_
      refine AW.go 2 (pc' := 82) rfl ?_
      refine AW.getf (pn := 85) rfl rfl flX4_22 (by first | assumption | exact HM_29 hl | exact HM_34 hl | exact HM_35 hl | exact HM_36 hl | exact (HM_ne (by first | decide | omega) (by first | decide | omega) (by first | decide | omega) (by first | decide | omega)).trans (by assumption)) rfl ?_
      refine AW.go 3 (pc' := 89) rfl ?_
      refine AW.iald (pn := 90) rfl rfl (by first | assumption | exact HM_29 hl | exact HM_34 hl | exact HM_35 hl | exact HM_36 hl | exact (HM_ne (by first | decide | omega) (by first | decide | omega) (by first | decide | omega) (by first | decide | omega)).trans (by assumption)) (by first | decide | omega) (by omega) (by omega) ?_
      refine AW.iast (pn := 91) rfl rfl (by first | assumption | exact HM_29 hl | exact HM_34 hl | exact HM_35 hl | exact HM_36 hl | exact (HM_ne (by first | decide | omega) (by first | decide | omega) (by first | decide | omega) (by first | decide | omega)).trans (by assumption)) (by first | decide | omega) (by omega) (by omega) ?_
      refine AW.go 1 (pc' := 92) rfl ?_
      refine AW.hp HM_s34 ?_
      rw [show (k - 1).toNat = k.toNat - 1 by omega, shf_s GF (by omega) (by omega)]
      refine AW.getf (pn := 95) rfl rfl flX4_25 (by first | assumption | exact HM_29 hl | exact HM_34 hl | exact HM_35 hl | exact HM_36 hl | exact (HM_ne (by first | decide | omega) (by first | decide | omega) (by first | decide | omega) (by first | decide | omega)).trans (by assumption)) rfl ?_
      refine AW.go 2 (pc' := 98) rfl ?_
      refine AW.getf (pn := 101) rfl rfl flX4_25 (by first | assumption | exact HM_29 hl | exact HM_34 hl | exact HM_35 hl | exact HM_36 hl | exact (HM_ne (by first | decide | omega) (by first | decide | omega) (by first | decide | omega) (by first | decide | omega)).trans (by assumption)) rfl ?_
      refine AW.go 3 (pc' := 105) rfl ?_
      refine AW.iald (pn := 106) rfl rfl (by first | assumption | exact HM_29 hl | exact HM_34 hl | exact HM_35 hl | exact HM_36 hl | exact (HM_ne (by first | decide | omega) (by first | decide | omega) (by first | decide | omega) (by first | decide | omega)).trans (by assumption)) (by first | decide | omega) (by omega) (by omega) ?_
      refine AW.iast (pn := 107) rfl rfl (by first | assumption | exact HM_29 hl | exact HM_34 hl | exact HM_35 hl | exact HM_36 hl | exact (HM_ne (by first | decide | omega) (by first | decide | omega) (by first | decide | omega) (by first | decide | omega)).trans (by assumption)) (by first | decide | omega) (by omega) (by omega) ?_
      refine AW.go 2 (pc' := 68) rfl ?_
      refine AW.hp HM_s35 ?_
      rw [show (k - 1).toNat = k.toNat - 1 by omega, shf_s GS (by omega) (by omega), show k.toNat - 1 = (k + -1).toNat by omega]
      refine AW.lw ?_ (ih (k + -1) (by omega) (by omega) (by omega))
      exact (And.intro rfl (And.intro rfl (And.intro rfl (And.intro rfl (And.intro rfl (And.intro rfl trivial))))))
set_option maxHeartbeats 2000000 in
theorem p_X4_addGroup (d : Nat) (hd : 4 ≤ d) (h : List AC) (hl : 37 ≤ h.length) (pm rf ka wr : Int) (m : Nat → Int) (hM : h[30]? = some (ai 0 48 m)) (hm : mt m) (r : Int) (rr : 0 ≤ r ∧ r < 4) (f : Nat → Int) (hf : f = rwm m r) (g : Nat) (hg : g = 3 ∨ g = 4) (C : Nat → Int) (L : List Nat) (hL : L.length < 48) (hb : ∀ x ∈ L, x < 48) (GF GS : Nat → Int) (hS : SM f g GF GS L) (F : Nat) (rF : F < 48) (a : Int) (h0 : 0 ≤ a) (h1 : a ≤ (L.length : Int)) (hj : ∀ j : Nat, j < a.toNat → sK f g (L.getD j 0) < sK f g F) (hnl : a < (L.length : Int) → ¬ sK f g (L.getD a.toNat 0) < sK f g F) : AW zX4_addGroup Eq (rmd d) 0 0 0 0 35 [(4, vi a), (0, vr 29), (1, vi r), (2, vi (g : Int)), (3, vi (F : Int))] [] (HM h pm rf (L.length : Int) ka wr GF GS C) (fun v u => v = none ∧ ∃ GF9 GS9 : Nat → Int, u = (HM h pm rf ((insF f g F L).length : Int) ka wr GF9 GS9 C) ∧ SM f g GF9 GS9 (insF f g F L)) := by
  refine AW.go 2 (pc' := 38) rfl ?_
  refine AW.getf (pn := 41) rfl rfl flX4_144 (by first | assumption | exact HM_29 hl | exact HM_34 hl | exact HM_35 hl | exact HM_36 hl | exact (HM_ne (by first | decide | omega) (by first | decide | omega) (by first | decide | omega) (by first | decide | omega)).trans (by assumption)) rfl ?_
  refine AW.bi (tgt := 62) (pn := 44) rfl (by decide) rfl (by first | exact bI_rng _ | exact ⟨by omega, by omega⟩) (by first | exact bI_rng _ | exact ⟨by omega, by omega⟩) (fun c41 => ?_) (fun c41 => ?_)
  · dsimp only [cmpI] at c41
    refine AW.go 1 (pc' := 63) rfl ?_
    refine AW.getf (pn := 66) rfl rfl flX4_144 (by first | assumption | exact HM_29 hl | exact HM_34 hl | exact HM_35 hl | exact HM_36 hl | exact (HM_ne (by first | decide | omega) (by first | decide | omega) (by first | decide | omega) (by first | decide | omega)).trans (by assumption)) rfl ?_
    refine AW.go 1 (pc' := 68) rfl ?_
    have he : insF f g F L = insA L a.toNat F := by
      rw [insF_at (a := a.toNat) (by omega) hj (fun q => hnl (by omega)), if_neg (fun q => by omega)]
    have e9 := l2_X4_addGroup d hd h hl pm rf ka wr m hM hm r rr f hf g hg C L hL hb GF GS hS F rF a h0 (by omega) he _ (L.length : Int) h1 (Int.le_refl _) (Nat.lt_succ_self _)
    rw [Int.toNat_natCast, shf_M, shf_M] at e9
    refine AW.lw ?_ e9
    exact (And.intro rfl (And.intro rfl (And.intro rfl (And.intro rfl (And.intro rfl (And.intro rfl trivial))))))
  · dsimp only [cmpI] at c41
    refine AW.go 4 (pc' := 48) rfl ?_
    refine AW.getf (pn := 51) rfl rfl flX4_22 (by first | assumption | exact HM_29 hl | exact HM_34 hl | exact HM_35 hl | exact HM_36 hl | exact (HM_ne (by first | decide | omega) (by first | decide | omega) (by first | decide | omega) (by first | decide | omega)).trans (by assumption)) rfl ?_
    refine AW.go 1 (pc' := 53) rfl ?_
    refine AW.iald (pn := 54) rfl rfl (by first | assumption | exact HM_29 hl | exact HM_34 hl | exact HM_35 hl | exact HM_36 hl | exact (HM_ne (by first | decide | omega) (by first | decide | omega) (by first | decide | omega) (by first | decide | omega)).trans (by assumption)) (by first | decide | omega) (by omega) (by omega) ?_
    refine AW.go 1 (pc' := 55) rfl ?_
    have q1 := (hS a.toNat (by omega)).1
    have q2 := gD_lt hb (show a.toNat < L.length by omega)
    rw [q1]
    refine AW.callVF (pn := 58) rfl rfl mlX4_147 (by first | assumption | exact HM_29 hl | exact HM_34 hl | exact HM_35 hl | exact HM_36 hl | exact (HM_ne (by first | decide | omega) (by first | decide | omega) (by first | decide | omega) (by first | decide | omega)).trans (by assumption)) (c_X4_comparedGroups (d - 1) (by omega) _ _ _ _ _ _ (HM_29 hl) m ((HM_ne (by decide) (by decide) (by decide) (by decide)).trans hM) hm _ _ _ _ (by omega) (by omega) (by omega) (by omega)) rfl rfl (Nat.le_of_ble_eq_true rfl) ⟨by show d - 1 + 1 ≤ d; omega, by show 40 * (d - 1 + 1) ≤ 40 * d; omega⟩ ⟨Nat.zero_le _, Nat.zero_le _⟩ ?_
    rw [← hf]
    have q3 := cpG_b f (g : Int) ((L.getD a.toNat 0 : Nat) : Int) (F : Int)
    have q4 := cpG_k f g (L.getD a.toNat 0) F
    refine AW.br (tgt := 62) (pn := 61) rfl (by decide) rfl (by first | exact bI_rng _ | exact ⟨by omega, by omega⟩) (fun c58 => ?_) (fun c58 => ?_)
    · dsimp only [cmpI] at c58
      refine AW.go 1 (pc' := 63) rfl ?_
      refine AW.getf (pn := 66) rfl rfl flX4_144 (by first | assumption | exact HM_29 hl | exact HM_34 hl | exact HM_35 hl | exact HM_36 hl | exact (HM_ne (by first | decide | omega) (by first | decide | omega) (by first | decide | omega) (by first | decide | omega)).trans (by assumption)) rfl ?_
      refine AW.go 1 (pc' := 68) rfl ?_
      have he : insF f g F L = insA L a.toNat F := by
        rw [insF_at (a := a.toNat) (by omega) hj (fun q => hnl (by omega)), if_neg (fun q => by omega)]
      have e9 := l2_X4_addGroup d hd h hl pm rf ka wr m hM hm r rr f hf g hg C L hL hb GF GS hS F rF a h0 (by omega) he _ (L.length : Int) h1 (Int.le_refl _) (Nat.lt_succ_self _)
      rw [Int.toNat_natCast, shf_M, shf_M] at e9
      refine AW.lw ?_ e9
      exact (And.intro rfl (And.intro rfl (And.intro rfl (And.intro rfl (And.intro rfl (And.intro rfl trivial))))))
    · dsimp only [cmpI] at c58
      refine AW.retv rfl rfl (Nat.le_refl _) (Nat.le_refl _) ?_
      have he : insF f g F L = L := by
        rw [insF_at (a := a.toNat) (by omega) hj (fun q => hnl (by omega)), if_pos ⟨by omega, by omega⟩]
      rw [he]
      exact ⟨rfl, GF, GS, rfl, hS⟩
set_option maxHeartbeats 4000000 in
theorem l1_X4_addGroup (d : Nat) (hd : 4 ≤ d) (h : List AC) (hl : 37 ≤ h.length) (pm rf ka wr : Int) (m : Nat → Int) (hM : h[30]? = some (ai 0 48 m)) (hm : mt m) (r : Int) (rr : 0 ≤ r ∧ r < 4) (f : Nat → Int) (hf : f = rwm m r) (g : Nat) (hg : g = 3 ∨ g = 4) (C : Nat → Int) (L : List Nat) (hL : L.length < 48) (hb : ∀ x ∈ L, x < 48) (GF GS : Nat → Int) (hS : SM f g GF GS L) (F : Nat) (rF : F < 48) : ∀ (n : Nat) (a : Int), (0 ≤ a) → (a ≤ (L.length : Int)) → (∀ j : Nat, j < a.toNat → sK f g (L.getD j 0) < sK f g F) → (((L.length : Int) - a).toNat) < n → AW zX4_addGroup Eq (rmd d) 0 0 0 0 3 [(4, vi a), (0, vr 29), (1, vi r), (2, vi (g : Int)), (3, vi (F : Int))] [] (HM h pm rf (L.length : Int) ka wr GF GS C) (fun v u => v = none ∧ ∃ GF9 GS9 : Nat → Int, u = (HM h pm rf ((insF f g F L).length : Int) ka wr GF9 GS9 C) ∧ SM f g GF9 GS9 (insF f g F L)) := by
  intro n
  induction n with
  | zero =>
    intro a h0 h1 hj hn
    exact absurd hn (Nat.not_lt_zero _)
  | succ n ih =>
    intro a h0 h1 hj hn
    refine AW.go 2 (pc' := 6) rfl ?_
    refine AW.getf (pn := 9) rfl rfl flX4_144 (by first | assumption | exact HM_29 hl | exact HM_34 hl | exact HM_35 hl | exact HM_36 hl | exact (HM_ne (by first | decide | omega) (by first | decide | omega) (by first | decide | omega) (by first | decide | omega)).trans (by assumption)) rfl ?_
    refine AW.bi (tgt := 35) (pn := 12) rfl (by decide) rfl (by first | exact bI_rng _ | exact ⟨by omega, by omega⟩) (by first | exact bI_rng _ | exact ⟨by omega, by omega⟩) (fun c9 => ?_) (fun c9 => ?_)
    · dsimp only [cmpI] at c9
      refine AW.lw ?_ (p_X4_addGroup d hd h hl pm rf ka wr m hM hm r rr f hf g hg C L hL hb GF GS hS F rF a h0 h1 hj (fun q => by omega))
      exact (And.intro rfl (And.intro rfl (And.intro rfl (And.intro rfl (And.intro rfl trivial)))))
    · dsimp only [cmpI] at c9
      refine AW.go 4 (pc' := 16) rfl ?_
      refine AW.getf (pn := 19) rfl rfl flX4_22 (by first | assumption | exact HM_29 hl | exact HM_34 hl | exact HM_35 hl | exact HM_36 hl | exact (HM_ne (by first | decide | omega) (by first | decide | omega) (by first | decide | omega) (by first | decide | omega)).trans (by assumption)) rfl ?_
      refine AW.go 1 (pc' := 21) rfl ?_
      refine AW.iald (pn := 22) rfl rfl (by first | assumption | exact HM_29 hl | exact HM_34 hl | exact HM_35 hl | exact HM_36 hl | exact (HM_ne (by first | decide | omega) (by first | decide | omega) (by first | decide | omega) (by first | decide | omega)).trans (by assumption)) (by first | decide | omega) (by omega) (by omega) ?_
      refine AW.go 1 (pc' := 23) rfl ?_
      have q1 := (hS a.toNat (by omega)).1
      have q2 := gD_lt hb (show a.toNat < L.length by omega)
      rw [q1]
      refine AW.callVF (pn := 26) rfl rfl mlX4_147 (by first | assumption | exact HM_29 hl | exact HM_34 hl | exact HM_35 hl | exact HM_36 hl | exact (HM_ne (by first | decide | omega) (by first | decide | omega) (by first | decide | omega) (by first | decide | omega)).trans (by assumption)) (c_X4_comparedGroups (d - 1) (by omega) _ _ _ _ _ _ (HM_29 hl) m ((HM_ne (by decide) (by decide) (by decide) (by decide)).trans hM) hm _ _ _ _ (by omega) (by omega) (by omega) (by omega)) rfl rfl (Nat.le_of_ble_eq_true rfl) ⟨by show d - 1 + 1 ≤ d; omega, by show 40 * (d - 1 + 1) ≤ 40 * d; omega⟩ ⟨Nat.zero_le _, Nat.zero_le _⟩ ?_
      rw [← hf]
      have q3 := cpG_b f (g : Int) ((L.getD a.toNat 0 : Nat) : Int) (F : Int)
      have q4 := cpG_k f g (L.getD a.toNat 0) F
      refine AW.br (tgt := 35) (pn := 29) rfl (by decide) rfl (by first | exact bI_rng _ | exact ⟨by omega, by omega⟩) (fun c26 => ?_) (fun c26 => ?_)
      · dsimp only [cmpI] at c26
        refine AW.lw ?_ (p_X4_addGroup d hd h hl pm rf ka wr m hM hm r rr f hf g hg C L hL hb GF GS hS F rF a h0 h1 hj (fun q => by omega))
        exact (And.intro rfl (And.intro rfl (And.intro rfl (And.intro rfl (And.intro rfl trivial)))))
      · dsimp only [cmpI] at c26
        refine AW.go 2 (pc' := 3) rfl ?_
        refine AW.lw ?_ (ih (a + 1) (by omega) (by omega) (fun j j1 => ?_) (by omega))
        · exact (And.intro rfl (And.intro rfl (And.intro rfl (And.intro rfl (And.intro rfl trivial)))))
        · rcases (show j = a.toNat ∨ j < a.toNat by omega) with q | q
          · subst q; omega
          · exact hj j q
set_option maxHeartbeats 2000000 in
theorem c_X4_addGroup (d : Nat) (hd : 4 ≤ d) (h : List AC) (hl : 37 ≤ h.length) (pm rf ka wr : Int) (m : Nat → Int) (hM : h[30]? = some (ai 0 48 m)) (hm : mt m) (r : Int) (rr : 0 ≤ r ∧ r < 4) (f : Nat → Int) (hf : f = rwm m r) (g : Nat) (hg : g = 3 ∨ g = 4) (C : Nat → Int) (L : List Nat) (hL : L.length < 48) (hb : ∀ x ∈ L, x < 48) (GF GS : Nat → Int) (hS : SM f g GF GS L) (F : Nat) (rF : F < 48) : M0 zX4_addGroup d [vr 29, vi r, vi (g : Int), vi (F : Int)] (HM h pm rf (L.length : Int) ka wr GF GS C) (fun v u => v = none ∧ ∃ GF9 GS9 : Nat → Int, u = (HM h pm rf ((insF f g F L).length : Int) ka wr GF9 GS9 C) ∧ SM f g GF9 GS9 (insF f g F L)) := by
  refine M0.of okX4_addGroup (Nat.le_of_ble_eq_true rfl) ?_
  refine AW.go 2 (pc' := 3) rfl ?_
  refine AW.lw ?_ (l1_X4_addGroup d hd h hl pm rf ka wr m hM hm r rr f hf g hg C L hL hb GF GS hS F rF _ 0 (by omega) (by omega) (fun j j1 => by omega) (Nat.lt_succ_self _))
  exact (And.intro rfl (And.intro rfl (And.intro rfl (And.intro rfl (And.intro rfl trivial)))))
