section Rules
variable {z : ZM} {G : GG} {R : Room} {MC MS k n pc pn : Nat} {ls : List (Nat × AV)} {st : List AV} {h : List AC} {Q : Option Int → List AC → Prop}
theorem AW.hp {h' : List AC} (e : h = h') (kk : AW z G R MC MS k n pc ls st h' Q) : AW z G R MC MS k n pc ls st h Q := e ▸ kk
end Rules
def HC (h : List AC) (M w b o : Int) (K T : Nat → Int) : List AC := ((h.set 25 (ao 1 [vr 26, vr 27, vi M, vi w, vi b, vi o])).set 26 (ai 0 48 K)).set 27 (ai 0 48 T)
section HCs
variable {h : List AC} {M w b o M' w' b' o' : Int} {K T K' T' : Nat → Int}
theorem HC_len : (HC h M w b o K T).length = h.length := by
  unfold HC; rw [List.length_set, List.length_set, List.length_set]
theorem HC_25 (hl : 28 ≤ h.length) : (HC h M w b o K T)[25]? = some (ao 1 [vr 26, vr 27, vi M, vi w, vi b, vi o]) := by
  unfold HC; rw [set_out (by decide), set_out (by decide), List.getElem?_set_self (by omega)]
theorem HC_26 (hl : 28 ≤ h.length) : (HC h M w b o K T)[26]? = some (ai 0 48 K) := by
  unfold HC; rw [set_out (by decide), List.getElem?_set_self (by rw [List.length_set]; omega)]
theorem HC_27 (hl : 28 ≤ h.length) : (HC h M w b o K T)[27]? = some (ai 0 48 T) := by
  unfold HC; rw [List.getElem?_set_self (by rw [List.length_set, List.length_set]; omega)]
theorem HC_ne {j : Nat} (h1 : j ≠ 25) (h2 : j ≠ 26) (h3 : j ≠ 27) : (HC h M w b o K T)[j]? = h[j]? := by
  unfold HC; rw [set_out h3.symm, set_out h2.symm, set_out h1.symm]
theorem HC_s25 : (HC h M w b o K T).set 25 (ao 1 [vr 26, vr 27, vi M', vi w', vi b', vi o']) = HC h M' w' b' o' K T := by
  unfold HC; rw [List.set_comm _ _ (show (27 : Nat) ≠ 25 by decide), List.set_comm _ _ (show (26 : Nat) ≠ 25 by decide), List.set_set]
theorem HC_s26 : (HC h M w b o K T).set 26 (ai 0 48 K') = HC h M w b o K' T := by
  unfold HC; rw [List.set_comm _ _ (show (27 : Nat) ≠ 26 by decide), List.set_set]
theorem HC_s27 : (HC h M w b o K T).set 27 (ai 0 48 T') = HC h M w b o K T' := by
  unfold HC; rw [List.set_set]
theorem HC_id (h1 : h[25]? = some (ao 1 [vr 26, vr 27, vi M, vi w, vi b, vi o])) (h2 : h[26]? = some (ai 0 48 K)) (h3 : h[27]? = some (ai 0 48 T)) : HC h M w b o K T = h := by
  unfold HC; rw [set_same h1, set_same h2, set_same h3]
end HCs
def SC (f : Nat → Int) (n : Nat) (K T : Nat → Int) (L : List Nat) : Prop := ∀ j, j < L.length → K j = (sK f n (L.getD j 0) : Int) ∧ T j = (sS f n (L.getD j 0) : Int)
def shf (K : Nat → Int) (k M : Nat) : Nat → Int := fun j => if k < j ∧ j ≤ M then K (j - 1) else K j
theorem shf_s (K : Nat → Int) {k M : Nat} (h1 : 1 ≤ k) (h2 : k ≤ M) : up (shf K k M) k (shf K k M (k - 1)) = shf K (k - 1) M := by
  funext j
  unfold up
  by_cases e : j = k
  · rw [if_pos e]
    unfold shf
    rw [if_neg (by omega), if_pos (by omega), e]
  · rw [if_neg e]
    unfold shf
    by_cases q : k < j ∧ j ≤ M
    · rw [if_pos q, if_pos (by omega)]
    · rw [if_neg q, if_neg (by omega)]
theorem shf_M (K : Nat → Int) (M : Nat) : shf K M M = K := by
  funext j
  unfold shf
  rw [if_neg (by omega)]
theorem ins_at {v : Nat → Nat} {K : Nat → Int} {L : List Nat} {a F : Nat} (ha : a ≤ L.length) (hK : ∀ j, j < L.length → K j = (v (L.getD j 0) : Int)) : ∀ j, j < L.length + 1 → up (shf K a L.length) a (v F : Int) j = (v ((insA L a F).getD j 0) : Int) := by
  intro j hj
  rw [insA_at F L a j ha]
  unfold up shf
  by_cases e : j = a
  · rw [if_pos e, if_neg (by omega), if_pos e]
  · rw [if_neg e]
    by_cases q : j < a
    · rw [if_neg (by omega), if_pos q, hK j (by omega)]
    · rw [if_pos (by omega), if_neg q, if_neg e, hK (j - 1) (by omega)]
theorem en_small {S : Nat → Nat} {L : List Nat} (hL : L.length ≤ 48) {m : Nat} (hm : m ≤ 3) (u : Nat) : (en S L m u).length < 1000000 := by
  have h1 := en_len S L m u
  have h2 : L.length ^ m ≤ 48 ^ m := Nat.pow_le_pow_left hL m
  have h3 : 48 ^ m ≤ 48 ^ 3 := Nat.pow_le_pow_right (by decide) hm
  omega
theorem key_dig {x : Nat} {t : Int} (h : 0 ≤ t) : (((((x : Int) / 2 ^ (t * 4).toNat).toNat &&& (15 : Int).toNat : Nat)) : Int) = ((x / 16 ^ t.toNat % 16 : Nat) : Int) := by
  have e : ((x : Int) / 2 ^ (t * 4).toNat).toNat = x / 2 ^ (t * 4).toNat := by
    rw [show ((x : Int) / 2 ^ (t * 4).toNat) = ((x / 2 ^ (t * 4).toNat : Nat) : Int) by push_cast; rfl, Int.toNat_natCast]
  rw [e, show (15 : Int).toNat = 2 ^ 4 - 1 from rfl, Nat.and_two_pow_sub_one_eq_mod, show (t * 4).toNat = 4 * t.toNat by omega, Nat.pow_mul]

set_option maxHeartbeats 4000000 in
theorem l2_X1_insert (d : Nat) (hd : 0 ≤ d) (h : List AC) (hl : 28 ≤ h.length) (f : Nat → Int) (g : Nat) (hg : g = 3 ∨ g = 4) (L : List Nat) (w b o : Int) (K T : Nat → Int) (hS : SC f g K T L) (hL : L.length < 48) (hs : srt f g L) (F : Nat) (a : Int) (h0 : 0 ≤ a) (ha : a.toNat ≤ L.length) (he : insF f g F L = insA L a.toNat F) : ∀ (n : Nat) (k : Int), (a ≤ k) → (k ≤ (L.length : Int)) → ((k - a).toNat) < n → AW zX1_insert Eq (rmd d) 0 0 0 0 59 [(4, vi k), (3, vi a), (0, vr 25), (1, vi (sK f g F : Int)), (2, vi (sS f g F : Int))] [] (HC h (L.length : Int) w b o (shf K k.toNat L.length) (shf T k.toNat L.length)) (fun v u => v = none ∧ ∃ K9 T9 : Nat → Int, u = HC h ((insF f g F L).length : Int) w b o K9 T9 ∧ SC f g K9 T9 (insF f g F L)) := by
  intro n
  induction n with
  | zero =>
    intro k h1 h2 hn
    exact absurd hn (Nat.not_lt_zero _)
  | succ n ih =>
    intro k h1 h2 hn
    refine AW.go 2 (pc' := 62) rfl ?_
    refine AW.bi (tgt := 103) (pn := 65) rfl (by decide) rfl (by first | exact bI_rng _ | exact ⟨by omega, by omega⟩) (by first | exact bI_rng _ | exact ⟨by omega, by omega⟩) (fun c62 => ?_) (fun c62 => ?_)
    · dsimp only [cmpI] at c62
      refine AW.go 1 (pc' := 104) rfl ?_
      refine AW.getf (pn := 107) rfl rfl flX1_9 (by first | assumption | exact HC_25 hl | exact HC_26 hl | exact HC_27 hl | exact (HC_ne (by first | decide | omega) (by first | decide | omega) (by first | decide | omega)).trans (by assumption)) rfl ?_
      refine AW.go 2 (pc' := 109) rfl ?_
      refine AW.iast (pn := 110) rfl rfl (by first | assumption | exact HC_25 hl | exact HC_26 hl | exact HC_27 hl | exact (HC_ne (by first | decide | omega) (by first | decide | omega) (by first | decide | omega)).trans (by assumption)) (by first | decide | omega) (by omega) (by omega) ?_
      refine AW.go 1 (pc' := 111) rfl ?_
      refine AW.hp HC_s26 ?_
      refine AW.getf (pn := 114) rfl rfl flX1_15 (by first | assumption | exact HC_25 hl | exact HC_26 hl | exact HC_27 hl | exact (HC_ne (by first | decide | omega) (by first | decide | omega) (by first | decide | omega)).trans (by assumption)) rfl ?_
      refine AW.go 2 (pc' := 116) rfl ?_
      refine AW.iast (pn := 117) rfl rfl (by first | assumption | exact HC_25 hl | exact HC_26 hl | exact HC_27 hl | exact (HC_ne (by first | decide | omega) (by first | decide | omega) (by first | decide | omega)).trans (by assumption)) (by first | decide | omega) (by omega) (by omega) ?_
      refine AW.go 2 (pc' := 119) rfl ?_
      refine AW.hp HC_s27 ?_
      refine AW.getf (pn := 122) rfl rfl flX1_18 (by first | assumption | exact HC_25 hl | exact HC_26 hl | exact HC_27 hl | exact (HC_ne (by first | decide | omega) (by first | decide | omega) (by first | decide | omega)).trans (by assumption)) rfl ?_
      refine AW.go 2 (pc' := 124) rfl ?_
      refine AW.putf (pn := 127) rfl rfl flX1_18 (by first | assumption | exact HC_25 hl | exact HC_26 hl | exact HC_27 hl | exact (HC_ne (by first | decide | omega) (by first | decide | omega) (by first | decide | omega)).trans (by assumption)) rfl (by first | trivial | exact bI_01 _ | exact Or.inl rfl | exact Or.inr rfl) ?_
      refine AW.retv rfl rfl (Nat.le_refl _) (Nat.le_refl _) ?_
      refine ⟨rfl, up (shf K k.toNat L.length) a.toNat (sK f g F : Int), up (shf T k.toNat L.length) a.toNat (sS f g F : Int), ?_, ?_⟩
      · refine HC_s25.trans ?_
        rw [he, insA_len, show ((L.length + 1 : Nat) : Int) = (L.length : Int) + 1 by omega]
      · rw [he]
        intro j hj9
        rw [insA_len] at hj9
        rw [show k = a by omega]
        exact ⟨ins_at ha (fun j hj => (hS j hj).1) j hj9, ins_at ha (fun j hj => (hS j hj).2) j hj9⟩
    · dsimp only [cmpI] at c62
      refine AW.go 1 (pc' := 66) rfl ?_
      refine AW.getf (pn := 69) rfl rfl flX1_9 (by first | assumption | exact HC_25 hl | exact HC_26 hl | exact HC_27 hl | exact (HC_ne (by first | decide | omega) (by first | decide | omega) (by first | decide | omega)).trans (by assumption)) rfl ?_
      refine AW.go 2 (pc' := 72) rfl ?_
      refine AW.getf (pn := 75) rfl rfl flX1_9 (by first | assumption | exact HC_25 hl | exact HC_26 hl | exact HC_27 hl | exact (HC_ne (by first | decide | omega) (by first | decide | omega) (by first | decide | omega)).trans (by assumption)) rfl ?_
      refine AW.go 3 (pc' := 79) rfl ?_
      refine AW.iald (pn := 80) rfl rfl (by first | assumption | exact HC_25 hl | exact HC_26 hl | exact HC_27 hl | exact (HC_ne (by first | decide | omega) (by first | decide | omega) (by first | decide | omega)).trans (by assumption)) (by first | decide | omega) (by omega) (by omega) ?_
      refine AW.iast (pn := 81) rfl rfl (by first | assumption | exact HC_25 hl | exact HC_26 hl | exact HC_27 hl | exact (HC_ne (by first | decide | omega) (by first | decide | omega) (by first | decide | omega)).trans (by assumption)) (by first | decide | omega) (by omega) (by omega) ?_
      refine AW.go 1 (pc' := 82) rfl ?_
      refine AW.hp HC_s26 ?_
      rw [show (k - 1).toNat = k.toNat - 1 by omega, shf_s K (by omega) (by omega)]
      refine AW.getf (pn := 85) rfl rfl flX1_15 (by first | assumption | exact HC_25 hl | exact HC_26 hl | exact HC_27 hl | exact (HC_ne (by first | decide | omega) (by first | decide | omega) (by first | decide | omega)).trans (by assumption)) rfl ?_
      refine AW.go 2 (pc' := 88) rfl ?_
      refine AW.getf (pn := 91) rfl rfl flX1_15 (by first | assumption | exact HC_25 hl | exact HC_26 hl | exact HC_27 hl | exact (HC_ne (by first | decide | omega) (by first | decide | omega) (by first | decide | omega)).trans (by assumption)) rfl ?_
      refine AW.go 3 (pc' := 95) rfl ?_
      refine AW.iald (pn := 96) rfl rfl (by first | assumption | exact HC_25 hl | exact HC_26 hl | exact HC_27 hl | exact (HC_ne (by first | decide | omega) (by first | decide | omega) (by first | decide | omega)).trans (by assumption)) (by first | decide | omega) (by omega) (by omega) ?_
      refine AW.iast (pn := 97) rfl rfl (by first | assumption | exact HC_25 hl | exact HC_26 hl | exact HC_27 hl | exact (HC_ne (by first | decide | omega) (by first | decide | omega) (by first | decide | omega)).trans (by assumption)) (by first | decide | omega) (by omega) (by omega) ?_
      refine AW.go 2 (pc' := 59) rfl ?_
      refine AW.hp HC_s27 ?_
      rw [show (k - 1).toNat = k.toNat - 1 by omega, shf_s T (by omega) (by omega), show k.toNat - 1 = (k + -1).toNat by omega]
      refine AW.lw ?_ (ih (k + -1) (by omega) (by omega) (by omega))
      exact (And.intro rfl (And.intro rfl (And.intro rfl (And.intro rfl (And.intro rfl trivial)))))
set_option maxHeartbeats 2000000 in
theorem p_X1_insert (d : Nat) (hd : 0 ≤ d) (h : List AC) (hl : 28 ≤ h.length) (f : Nat → Int) (g : Nat) (hg : g = 3 ∨ g = 4) (L : List Nat) (w b o : Int) (K T : Nat → Int) (hS : SC f g K T L) (hL : L.length < 48) (hs : srt f g L) (F : Nat) (a : Int) (h0 : 0 ≤ a) (h1 : a ≤ (L.length : Int)) (hj : ∀ j : Nat, a.toNat ≤ j → j < L.length → sK f g F < sK f g (L.getD j 0)) (hb : a ≤ 0 ∨ K (a - 1).toNat ≤ (sK f g F : Int)) : AW zX1_insert Eq (rmd d) 0 0 0 0 27 [(3, vi a), (0, vr 25), (1, vi (sK f g F : Int)), (2, vi (sS f g F : Int))] [] (HC h (L.length : Int) w b o K T) (fun v u => v = none ∧ ∃ K9 T9 : Nat → Int, u = HC h ((insF f g F L).length : Int) w b o K9 T9 ∧ SC f g K9 T9 (insF f g F L)) := by
  refine AW.go 1 (pc' := 28) rfl ?_
  refine AW.getf (pn := 31) rfl rfl flX1_18 (by first | assumption | exact HC_25 hl | exact HC_26 hl | exact HC_27 hl | exact (HC_ne (by first | decide | omega) (by first | decide | omega) (by first | decide | omega)).trans (by assumption)) rfl ?_
  refine AW.go 1 (pc' := 33) rfl ?_
  refine AW.bi (tgt := 52) (pn := 36) rfl (by decide) rfl (by first | exact bI_rng _ | exact ⟨by omega, by omega⟩) (by first | exact bI_rng _ | exact ⟨by omega, by omega⟩) (fun c33 => ?_) (fun c33 => ?_)
  · dsimp only [cmpI] at c33
    exfalso; omega
  · dsimp only [cmpI] at c33
    refine AW.go 1 (pc' := 37) rfl ?_
    refine AW.br (tgt := 53) (pn := 40) rfl (by decide) rfl (by first | exact bI_rng _ | exact ⟨by omega, by omega⟩) (fun c37 => ?_) (fun c37 => ?_)
    · dsimp only [cmpI] at c37
      refine AW.go 1 (pc' := 54) rfl ?_
      refine AW.getf (pn := 57) rfl rfl flX1_18 (by first | assumption | exact HC_25 hl | exact HC_26 hl | exact HC_27 hl | exact (HC_ne (by first | decide | omega) (by first | decide | omega) (by first | decide | omega)).trans (by assumption)) rfl ?_
      refine AW.go 1 (pc' := 59) rfl ?_
      have hlt : ∀ j, j < a.toNat → sK f g (L.getD j 0) < sK f g F := by
        intro j hj9
        have q1 := (hS (a - 1).toNat (by omega)).1
        rcases (show j = (a - 1).toNat ∨ j < (a - 1).toNat by omega) with q | q
        · subst q; omega
        · have := srt_at hs q (by omega); omega
      have he : insF f g F L = insA L a.toNat F := by
        rw [insF_at (a := a.toNat) (by omega) hlt (fun q => by have := hj a.toNat (Nat.le_refl _) q; omega), if_neg (fun q => by have := hj a.toNat (Nat.le_refl _) q.1; omega)]
      have e9 := l2_X1_insert d hd h hl f g hg L w b o K T hS hL hs F a h0 (by omega) he _ (L.length : Int) h1 (Int.le_refl _) (Nat.lt_succ_self _)
      rw [Int.toNat_natCast, shf_M, shf_M] at e9
      refine AW.lw ?_ e9
      exact (And.intro rfl (And.intro rfl (And.intro rfl (And.intro rfl (And.intro rfl trivial)))))
    · dsimp only [cmpI] at c37
      refine AW.go 1 (pc' := 41) rfl ?_
      refine AW.getf (pn := 44) rfl rfl flX1_9 (by first | assumption | exact HC_25 hl | exact HC_26 hl | exact HC_27 hl | exact (HC_ne (by first | decide | omega) (by first | decide | omega) (by first | decide | omega)).trans (by assumption)) rfl ?_
      refine AW.go 3 (pc' := 47) rfl ?_
      refine AW.iald (pn := 48) rfl rfl (by first | assumption | exact HC_25 hl | exact HC_26 hl | exact HC_27 hl | exact (HC_ne (by first | decide | omega) (by first | decide | omega) (by first | decide | omega)).trans (by assumption)) (by first | decide | omega) (by omega) (by omega) ?_
      refine AW.go 1 (pc' := 49) rfl ?_
      have q1 := (hS (a - 1).toNat (by omega)).1
      have q2 := sK_lt hg (f := f) (L.getD (a - 1).toNat 0)
      have q3 := sK_lt hg (f := f) F
      refine AW.bi (tgt := 53) (pn := 52) rfl (by decide) rfl (by first | exact bI_rng _ | exact ⟨by omega, by omega⟩) (by first | exact bI_rng _ | exact ⟨by omega, by omega⟩) (fun c49 => ?_) (fun c49 => ?_)
      · dsimp only [cmpI] at c49
        refine AW.go 1 (pc' := 54) rfl ?_
        refine AW.getf (pn := 57) rfl rfl flX1_18 (by first | assumption | exact HC_25 hl | exact HC_26 hl | exact HC_27 hl | exact (HC_ne (by first | decide | omega) (by first | decide | omega) (by first | decide | omega)).trans (by assumption)) rfl ?_
        refine AW.go 1 (pc' := 59) rfl ?_
        have hlt : ∀ j, j < a.toNat → sK f g (L.getD j 0) < sK f g F := by
          intro j hj9
          have q1 := (hS (a - 1).toNat (by omega)).1
          rcases (show j = (a - 1).toNat ∨ j < (a - 1).toNat by omega) with q | q
          · subst q; omega
          · have := srt_at hs q (by omega); omega
        have he : insF f g F L = insA L a.toNat F := by
          rw [insF_at (a := a.toNat) (by omega) hlt (fun q => by have := hj a.toNat (Nat.le_refl _) q; omega), if_neg (fun q => by have := hj a.toNat (Nat.le_refl _) q.1; omega)]
        have e9 := l2_X1_insert d hd h hl f g hg L w b o K T hS hL hs F a h0 (by omega) he _ (L.length : Int) h1 (Int.le_refl _) (Nat.lt_succ_self _)
        rw [Int.toNat_natCast, shf_M, shf_M] at e9
        refine AW.lw ?_ e9
        exact (And.intro rfl (And.intro rfl (And.intro rfl (And.intro rfl (And.intro rfl trivial)))))
      · dsimp only [cmpI] at c49
        refine AW.retv rfl rfl (Nat.le_refl _) (Nat.le_refl _) ?_
        have he : insF f g F L = L := by
          have hq := hS (a - 1).toNat (by omega)
          rw [insF_at (a := (a - 1).toNat) (by omega) (fun j hj9 => by have := srt_at hs hj9 (show (a - 1).toNat < L.length by omega); omega) (fun q => by omega), if_pos ⟨by omega, by omega⟩]
        rw [he]
        exact ⟨rfl, K, T, rfl, hS⟩
set_option maxHeartbeats 4000000 in
theorem l1_X1_insert (d : Nat) (hd : 0 ≤ d) (h : List AC) (hl : 28 ≤ h.length) (f : Nat → Int) (g : Nat) (hg : g = 3 ∨ g = 4) (L : List Nat) (w b o : Int) (K T : Nat → Int) (hS : SC f g K T L) (hL : L.length < 48) (hs : srt f g L) (F : Nat) : ∀ (n : Nat) (a : Int), (0 ≤ a) → (a ≤ (L.length : Int)) → (∀ j : Nat, a.toNat ≤ j → j < L.length → sK f g F < sK f g (L.getD j 0)) → (a.toNat) < n → AW zX1_insert Eq (rmd d) 0 0 0 0 5 [(3, vi a), (0, vr 25), (1, vi (sK f g F : Int)), (2, vi (sS f g F : Int))] [] (HC h (L.length : Int) w b o K T) (fun v u => v = none ∧ ∃ K9 T9 : Nat → Int, u = HC h ((insF f g F L).length : Int) w b o K9 T9 ∧ SC f g K9 T9 (insF f g F L)) := by
  intro n
  induction n with
  | zero =>
    intro a h0 h1 hj hn
    exact absurd hn (Nat.not_lt_zero _)
  | succ n ih =>
    intro a h0 h1 hj hn
    refine AW.go 1 (pc' := 6) rfl ?_
    refine AW.br (tgt := 27) (pn := 9) rfl (by decide) rfl (by first | exact bI_rng _ | exact ⟨by omega, by omega⟩) (fun c6 => ?_) (fun c6 => ?_)
    · dsimp only [cmpI] at c6
      refine AW.lw ?_ (p_X1_insert d hd h hl f g hg L w b o K T hS hL hs F a h0 h1 hj (by omega))
      exact (And.intro rfl (And.intro rfl (And.intro rfl (And.intro rfl trivial))))
    · dsimp only [cmpI] at c6
      refine AW.go 1 (pc' := 10) rfl ?_
      refine AW.getf (pn := 13) rfl rfl flX1_9 (by first | assumption | exact HC_25 hl | exact HC_26 hl | exact HC_27 hl | exact (HC_ne (by first | decide | omega) (by first | decide | omega) (by first | decide | omega)).trans (by assumption)) rfl ?_
      refine AW.go 3 (pc' := 16) rfl ?_
      refine AW.iald (pn := 17) rfl rfl (by first | assumption | exact HC_25 hl | exact HC_26 hl | exact HC_27 hl | exact (HC_ne (by first | decide | omega) (by first | decide | omega) (by first | decide | omega)).trans (by assumption)) (by first | decide | omega) (by omega) (by omega) ?_
      refine AW.go 1 (pc' := 18) rfl ?_
      have q1 := (hS (a - 1).toNat (by omega)).1
      have q2 := sK_lt hg (f := f) (L.getD (a - 1).toNat 0)
      have q3 := sK_lt hg (f := f) F
      refine AW.bi (tgt := 27) (pn := 21) rfl (by decide) rfl (by first | exact bI_rng _ | exact ⟨by omega, by omega⟩) (by first | exact bI_rng _ | exact ⟨by omega, by omega⟩) (fun c18 => ?_) (fun c18 => ?_)
      · dsimp only [cmpI] at c18
        refine AW.lw ?_ (p_X1_insert d hd h hl f g hg L w b o K T hS hL hs F a h0 h1 hj (by omega))
        exact (And.intro rfl (And.intro rfl (And.intro rfl (And.intro rfl trivial))))
      · dsimp only [cmpI] at c18
        refine AW.go 2 (pc' := 5) rfl ?_
        refine AW.lw ?_ (ih (a + -1) (by omega) (by omega) (fun j j1 j2 => ?_) (by omega))
        · exact (And.intro rfl (And.intro rfl (And.intro rfl (And.intro rfl trivial))))
        · rcases (show j = (a - 1).toNat ∨ a.toNat ≤ j by omega) with q | q
          · subst q; omega
          · exact hj j q j2
set_option maxHeartbeats 2000000 in
theorem c_X1_insert (d : Nat) (hd : 0 ≤ d) (h : List AC) (hl : 28 ≤ h.length) (f : Nat → Int) (g : Nat) (hg : g = 3 ∨ g = 4) (L : List Nat) (w b o : Int) (K T : Nat → Int) (hS : SC f g K T L) (hL : L.length < 48) (hs : srt f g L) (F : Nat) : M0 zX1_insert d [vr 25, vi (sK f g F : Int), vi (sS f g F : Int)] (HC h (L.length : Int) w b o K T) (fun v u => v = none ∧ ∃ K9 T9 : Nat → Int, u = HC h ((insF f g F L).length : Int) w b o K9 T9 ∧ SC f g K9 T9 (insF f g F L)) := by
  refine M0.of okX1_insert (Nat.le_of_ble_eq_true rfl) ?_
  refine AW.go 1 (pc' := 1) rfl ?_
  refine AW.getf (pn := 4) rfl rfl flX1_18 (by first | assumption | exact HC_25 hl | exact HC_26 hl | exact HC_27 hl | exact (HC_ne (by first | decide | omega) (by first | decide | omega) (by first | decide | omega)).trans (by assumption)) rfl ?_
  refine AW.go 1 (pc' := 5) rfl ?_
  refine AW.lw ?_ (l1_X1_insert d hd h hl f g hg L w b o K T hS hL hs F _ (L.length : Int) (by omega) (Int.le_refl _) (fun j j1 j2 => by omega) (Nat.lt_succ_self _))
  exact (And.intro rfl (And.intro rfl (And.intro rfl (And.intro rfl trivial))))
theorem T_c (f : Nat → Int) (g : Nat) {K T : Nat → Int} {L : List Nat} (hS : SC f g K T L) : ∀ j, j < L.length → T j = (sS f g (L.getD j 0) : Int) := fun j hj => (hS j hj).2
set_option maxHeartbeats 4000000 in
theorem l_X1_countWays (d : Nat) (hd : 1 ≤ d) (h : List AC) (X : Nat) (T : Nat → Int) (hX : h[X]? = some (ai 0 48 T)) (S : Nat → Nat) (hSb : ∀ F, S F < 4096) (L : List Nat) (hL : L.length ≤ 48) (hT : ∀ j, j < L.length → T j = (S (L.getD j 0) : Int)) (m u : Nat) (hr : ∀ u : Nat, MF zX1_countWays (d - 1) [vr X, vi (L.length : Int), vi (u : Int), vi (m : Int)] h (((en S L m u).length : Nat) : Int) h) : ∀ (n : Nat) (k : Int) (w : Int), (0 ≤ k) → (k ≤ (L.length : Int)) → (w = (((chs S (en S L m) u (L.take k.toNat)).length : Nat) : Int)) → (((L.length : Int) - k).toNat) < n → AW zX1_countWays Eq (rmd d) 0 0 0 0 12 [(5, vi k), (4, vi w), (0, vr X), (1, vi (L.length : Int)), (2, vi (u : Int)), (3, vi ((m + 1 : Nat) : Int))] [] h (RQ (((en S L (m + 1) u).length : Nat) : Int) h) := by
  intro n
  induction n with
  | zero =>
    intro k w h0 h1 hw hn
    exact absurd hn (Nat.not_lt_zero _)
  | succ n ih =>
    intro k w h0 h1 hw hn
    refine AW.go 2 (pc' := 15) rfl ?_
    refine AW.bi (tgt := 52) (pn := 18) rfl (by decide) rfl (by first | exact bI_rng _ | exact ⟨by omega, by omega⟩) (by first | exact bI_rng _ | exact ⟨by omega, by omega⟩) (fun c15 => ?_) (fun c15 => ?_)
    · dsimp only [cmpI] at c15
      refine AW.go 1 (pc' := 54) rfl ?_
      refine AW.ret rfl rfl (Nat.le_refl _) (Nat.le_refl _) ?_
      refine ⟨congrArg some ?_, rfl⟩
      rw [hw, List.take_of_length_le (by omega)]
      rfl
    · dsimp only [cmpI] at c15
      refine AW.go 2 (pc' := 21) rfl ?_
      refine AW.iald (pn := 22) rfl rfl (by assumption) (by first | decide | omega) (by omega) (by omega) ?_
      rw [hT k.toNat (by omega)]
      have q1 : S (L.getD k.toNat 0) &&& u ≤ S (L.getD k.toNat 0) := Nat.and_le_left
      have q2 := hSb (L.getD k.toNat 0)
      refine AW.go 1 (pc' := 23) rfl ?_
      refine AW.andN (pn := 24) rfl rfl ?_
      refine AW.br (tgt := 46) (pn := 27) rfl (by decide) rfl (by first | exact bI_rng _ | exact ⟨by omega, by omega⟩) (fun c24 => ?_) (fun c24 => ?_)
      · dsimp only [cmpI] at c24
        refine AW.go 2 (pc' := 12) rfl ?_
        have ct := chs_take S (en S L m) u (L := L) (k := k.toNat) (by omega)
        unfold wy at ct
        first
          | (rw [if_pos (show S (L.getD k.toNat 0) &&& u = 0 by omega)] at ct
             refine AW.lw ?_ (ih (k + 1) (w + (((en S L m (u ||| S (L.getD k.toNat 0))).length : Nat) : Int)) (by omega) (by omega) (by rw [k1 h0]; omega) (by omega))
             exact (And.intro rfl (And.intro rfl (And.intro rfl (And.intro rfl (And.intro rfl (And.intro rfl trivial)))))))
          | (rw [if_neg (show ¬ S (L.getD k.toNat 0) &&& u = 0 by omega)] at ct
             refine AW.lw ?_ (ih (k + 1) w (by omega) (by omega) (by rw [k1 h0]; omega) (by omega))
             exact (And.intro rfl (And.intro rfl (And.intro rfl (And.intro rfl (And.intro rfl (And.intro rfl trivial)))))))
      · dsimp only [cmpI] at c24
        refine AW.go 6 (pc' := 35) rfl ?_
        refine AW.iald (pn := 36) rfl rfl (by assumption) (by first | decide | omega) (by omega) (by omega) ?_
        rw [hT k.toNat (by omega)]
        first | refine AW.orN (pn := 37) rfl rfl ?_ | refine AW.orN (y := 0) (pn := 37) rfl rfl ?_
        refine AW.go 3 (pc' := 40) rfl ?_
        rw [show ((m + 1 : Nat) : Int) - 1 = (m : Int) by omega]
        refine AW.callSF (pn := 43) rfl rfl mlX1_42 (hr _) rfl rfl (Nat.le_of_ble_eq_true rfl) ⟨by show d - 1 + 1 ≤ d; omega, by show 40 * (d - 1 + 1) ≤ 40 * d; omega⟩ ⟨Nat.zero_le _, Nat.zero_le _⟩ ?_
        refine AW.go 4 (pc' := 12) rfl ?_
        have ct := chs_take S (en S L m) u (L := L) (k := k.toNat) (by omega)
        unfold wy at ct
        first
          | (rw [if_pos (show S (L.getD k.toNat 0) &&& u = 0 by omega)] at ct
             refine AW.lw ?_ (ih (k + 1) (w + (((en S L m (u ||| S (L.getD k.toNat 0))).length : Nat) : Int)) (by omega) (by omega) (by rw [k1 h0]; omega) (by omega))
             exact (And.intro rfl (And.intro rfl (And.intro rfl (And.intro rfl (And.intro rfl (And.intro rfl trivial)))))))
          | (rw [if_neg (show ¬ S (L.getD k.toNat 0) &&& u = 0 by omega)] at ct
             refine AW.lw ?_ (ih (k + 1) w (by omega) (by omega) (by rw [k1 h0]; omega) (by omega))
             exact (And.intro rfl (And.intro rfl (And.intro rfl (And.intro rfl (And.intro rfl (And.intro rfl trivial)))))))
set_option maxHeartbeats 2000000 in
theorem c_X1_countWays (h : List AC) (X : Nat) (T : Nat → Int) (hX : h[X]? = some (ai 0 48 T)) (S : Nat → Nat) (hSb : ∀ F, S F < 4096) (L : List Nat) (hL : L.length ≤ 48) (hT : ∀ j, j < L.length → T j = (S (L.getD j 0) : Int)) : ∀ (m d : Nat), m ≤ d → m ≤ 100 → ∀ u : Nat, MF zX1_countWays d [vr X, vi (L.length : Int), vi (u : Int), vi (m : Int)] h (((en S L m u).length : Nat) : Int) h
  | 0, d, _, _, u => by
    refine M0.of okX1_countWays (Nat.le_of_ble_eq_true rfl) ?_
    refine AW.go 1 (pc' := 1) rfl ?_
    refine AW.br (tgt := 6) (pn := 4) rfl (by decide) rfl (by first | exact bI_rng _ | exact ⟨by omega, by omega⟩) (fun c1 => ?_) (fun c1 => ?_)
    · dsimp only [cmpI] at c1
      exfalso; omega
    · dsimp only [cmpI] at c1
      refine AW.go 1 (pc' := 5) rfl ?_
      refine AW.ret rfl rfl (Nat.le_refl _) (Nat.le_refl _) ?_
      exact ⟨rfl, rfl⟩
  | m + 1, d, hd, hm, u => by
    refine M0.of okX1_countWays (Nat.le_of_ble_eq_true rfl) ?_
    refine AW.go 1 (pc' := 1) rfl ?_
    refine AW.br (tgt := 6) (pn := 4) rfl (by decide) rfl (by first | exact bI_rng _ | exact ⟨by omega, by omega⟩) (fun c1 => ?_) (fun c1 => ?_)
    · dsimp only [cmpI] at c1
      refine AW.go 4 (pc' := 12) rfl ?_
      refine AW.lw ?_ (l_X1_countWays d (by omega) h X T hX S hSb L hL hT m u (fun u9 => c_X1_countWays h X T hX S hSb L hL hT m (d - 1) (by omega) (by omega) u9) _ 0 0 (by omega) (by omega) rfl (Nat.lt_succ_self _))
      exact (And.intro rfl (And.intro rfl (And.intro rfl (And.intro rfl (And.intro rfl (And.intro rfl trivial))))))
    · dsimp only [cmpI] at c1
      exfalso; omega
set_option maxHeartbeats 2000000 in
theorem c_X1_countRows (d : Nat) (hd : 4 ≤ d) (h : List AC) (hl : 28 ≤ h.length) (f : Nat → Int) (g : Nat) (L : List Nat) (hL : L.length ≤ 48) (w o : Int) (b : Nat) (K T : Nat → Int) (hS : SC f g K T L) (m : Nat) (hm : m ≤ 3) (ho : o = (m : Int)) : MF zX1_countRows d [vr 25] (HC h (L.length : Int) w (b : Int) o K T) (((en (sS f g) L m b).length : Nat) : Int) (HC h (L.length : Int) w (b : Int) o K T) := by
  refine M0.of okX1_countRows (Nat.le_of_ble_eq_true rfl) ?_
  refine AW.go 1 (pc' := 1) rfl ?_
  refine AW.getf (pn := 4) rfl rfl flX1_15 (by first | assumption | exact HC_25 hl | exact HC_26 hl | exact HC_27 hl | exact (HC_ne (by first | decide | omega) (by first | decide | omega) (by first | decide | omega)).trans (by assumption)) rfl ?_
  refine AW.go 1 (pc' := 5) rfl ?_
  refine AW.getf (pn := 8) rfl rfl flX1_18 (by first | assumption | exact HC_25 hl | exact HC_26 hl | exact HC_27 hl | exact (HC_ne (by first | decide | omega) (by first | decide | omega) (by first | decide | omega)).trans (by assumption)) rfl ?_
  refine AW.go 1 (pc' := 9) rfl ?_
  refine AW.getf (pn := 12) rfl rfl flX1_25 (by first | assumption | exact HC_25 hl | exact HC_26 hl | exact HC_27 hl | exact (HC_ne (by first | decide | omega) (by first | decide | omega) (by first | decide | omega)).trans (by assumption)) rfl ?_
  refine AW.go 1 (pc' := 13) rfl ?_
  refine AW.getf (pn := 16) rfl rfl flX1_28 (by first | assumption | exact HC_25 hl | exact HC_26 hl | exact HC_27 hl | exact (HC_ne (by first | decide | omega) (by first | decide | omega) (by first | decide | omega)).trans (by assumption)) rfl ?_
  subst ho
  refine AW.callSF (pn := 19) rfl rfl mlX1_42 (c_X1_countWays _ 27 T (HC_27 hl) (sS f g) (sS_lt f g) L hL (T_c f g hS) m (d - 1) (by omega) (by omega) b) rfl rfl (Nat.le_of_ble_eq_true rfl) ⟨by show d - 1 + 1 ≤ d; omega, by show 40 * (d - 1 + 1) ≤ 40 * d; omega⟩ ⟨Nat.zero_le _, Nat.zero_le _⟩ ?_
  refine AW.ret rfl rfl (Nat.le_refl _) (Nat.le_refl _) ?_
  exact ⟨rfl, rfl⟩
set_option maxHeartbeats 4000000 in
theorem l1_X1_toneOfRow (d : Nat) (hd : 4 ≤ d) (h : List AC) (hl : 28 ≤ h.length) (f : Nat → Int) (g : Nat) (hg : g = 3 ∨ g = 4) (L : List Nat) (hL : L.length ≤ 48) (b : Nat) (o : Int) (K T : Nat → Int) (hS : SC f g K T L) (i p : Int) (rp : 0 ≤ p ∧ p < 12) (X : Int) (u : Nat) (e q : Int) (rq : 0 ≤ q ∧ q ≤ 2) (x : List Nat) (kx : ∀ k l : Int, 0 ≤ k → k < (L.length : Int) → 0 ≤ l → l < 1000000 → l < (wy (sS f g) (en (sS f g) L q.toNat) u (L.getD k.toNat 0) : Int) → (chs (sS f g) (en (sS f g) L q.toNat) u (L.drop k.toNat))[l.toNat]? = some x → AW zX1_toneOfRow Eq (rmd d) 0 0 0 0 111 [(7, vi k), (4, vi l), (3, vi (u : Int)), (5, vi e), (6, vi q), (0, vr 25), (1, vi i), (2, vi p)] [] (HC h (L.length : Int) (g : Int) (b : Int) o K T) (RQ X (HC h (L.length : Int) (g : Int) (b : Int) o K T))) : ∀ (n : Nat) (k : Int) (l : Int), (0 ≤ k) → (k ≤ (L.length : Int)) → (0 ≤ l) → (l < 1000000) → ((chs (sS f g) (en (sS f g) L q.toNat) u (L.drop k.toNat))[l.toNat]? = some x) → (((L.length : Int) - k).toNat) < n → AW zX1_toneOfRow Eq (rmd d) 0 0 0 0 39 [(7, vi k), (4, vi l), (3, vi (u : Int)), (5, vi e), (6, vi q), (0, vr 25), (1, vi i), (2, vi p)] [] (HC h (L.length : Int) (g : Int) (b : Int) o K T) (RQ X (HC h (L.length : Int) (g : Int) (b : Int) o K T)) := by
  intro n
  induction n with
  | zero =>
    intro k l h0 h1 h2 h3 hx hn
    exact absurd hn (Nat.not_lt_zero _)
  | succ n ih =>
    intro k l h0 h1 h2 h3 hx hn
    refine AW.go 2 (pc' := 42) rfl ?_
    refine AW.getf (pn := 45) rfl rfl flX1_18 (by first | assumption | exact HC_25 hl | exact HC_26 hl | exact HC_27 hl | exact (HC_ne (by first | decide | omega) (by first | decide | omega) (by first | decide | omega)).trans (by assumption)) rfl ?_
    refine AW.bi (tgt := 111) (pn := 48) rfl (by decide) rfl (by first | exact bI_rng _ | exact ⟨by omega, by omega⟩) (by first | exact bI_rng _ | exact ⟨by omega, by omega⟩) (fun c45 => ?_) (fun c45 => ?_)
    · dsimp only [cmpI] at c45
      first
        | (exfalso; omega)
        | (exfalso
           rw [List.drop_eq_nil_of_le (by omega)] at hx
           cases hx)
        | (have ew : wy (sS f g) (en (sS f g) L q.toNat) u (L.getD k.toNat 0) = (en (sS f g) L q.toNat (u ||| sS f g (L.getD k.toNat 0))).length := if_pos (by omega)
           rw [kk rq.1]
           refine AW.lw ?_ (kx k l h0 (by omega) h2 h3 (by omega) hx)
           exact (And.intro rfl (And.intro rfl (And.intro rfl (And.intro rfl (And.intro rfl (And.intro rfl (And.intro rfl (And.intro rfl trivial)))))))))
    · dsimp only [cmpI] at c45
      refine AW.go 1 (pc' := 49) rfl ?_
      refine AW.getf (pn := 52) rfl rfl flX1_15 (by first | assumption | exact HC_25 hl | exact HC_26 hl | exact HC_27 hl | exact (HC_ne (by first | decide | omega) (by first | decide | omega) (by first | decide | omega)).trans (by assumption)) rfl ?_
      refine AW.go 1 (pc' := 54) rfl ?_
      refine AW.iald (pn := 55) rfl rfl (by first | assumption | exact HC_25 hl | exact HC_26 hl | exact HC_27 hl | exact (HC_ne (by first | decide | omega) (by first | decide | omega) (by first | decide | omega)).trans (by assumption)) (by first | decide | omega) (by omega) (by omega) ?_
      rw [(hS k.toNat (by omega)).2]
      have q1 : sS f g (L.getD k.toNat 0) &&& u ≤ sS f g (L.getD k.toNat 0) := Nat.and_le_left
      have q2 := sS_lt f g (L.getD k.toNat 0)
      have q3 : (en (sS f g) L q.toNat (u ||| sS f g (L.getD k.toNat 0))).length < 1000000 := en_small hL (by omega) _
      refine AW.go 1 (pc' := 56) rfl ?_
      refine AW.andN (pn := 57) rfl rfl ?_
      refine AW.br (tgt := 85) (pn := 60) rfl (by decide) rfl (by first | exact bI_rng _ | exact ⟨by omega, by omega⟩) (fun c57 => ?_) (fun c57 => ?_)
      · dsimp only [cmpI] at c57
        refine AW.go 4 (pc' := 92) rfl ?_
        refine AW.bi (tgt := 98) (pn := 95) rfl (by decide) rfl (by first | exact bI_rng _ | exact ⟨by omega, by omega⟩) (by first | exact bI_rng _ | exact ⟨by omega, by omega⟩) (fun c92 => ?_) (fun c92 => ?_)
        · dsimp only [cmpI] at c92
          refine AW.go 6 (pc' := 39) rfl ?_
          first
            | (have ew : wy (sS f g) (en (sS f g) L q.toNat) u (L.getD k.toNat 0) = (en (sS f g) L q.toNat (u ||| sS f g (L.getD k.toNat 0))).length := if_pos (by omega)
               rw [kk rq.1]
               refine AW.lw ?_ (ih (k + 1) (l - (((en (sS f g) L q.toNat (u ||| sS f g (L.getD k.toNat 0))).length : Nat) : Int)) (by omega) (by omega) (by omega) (by omega) ?_ (by omega))
               · exact (And.intro rfl (And.intro rfl (And.intro rfl (And.intro rfl (And.intro rfl (And.intro rfl (And.intro rfl (And.intro rfl trivial))))))))
               · have := chs_ge (by omega) (by omega) hx
                 rw [k1 h0, ← this, ew]
                 congr 1
                 omega)
            | (have ew : wy (sS f g) (en (sS f g) L q.toNat) u (L.getD k.toNat 0) = 0 := if_neg (by omega)
               refine AW.lw ?_ (ih (k + 1) (l - 0) (by omega) (by omega) (by omega) (by omega) ?_ (by omega))
               · exact (And.intro rfl (And.intro rfl (And.intro rfl (And.intro rfl (And.intro rfl (And.intro rfl (And.intro rfl (And.intro rfl trivial))))))))
               · have := chs_ge (by omega) (by omega) hx
                 rw [k1 h0, ← this, ew]
                 congr 1
                 omega)
        · dsimp only [cmpI] at c92
          refine AW.go 1 (pc' := 111) rfl ?_
          first
            | (exfalso; omega)
            | (exfalso
               rw [List.drop_eq_nil_of_le (by omega)] at hx
               cases hx)
            | (have ew : wy (sS f g) (en (sS f g) L q.toNat) u (L.getD k.toNat 0) = (en (sS f g) L q.toNat (u ||| sS f g (L.getD k.toNat 0))).length := if_pos (by omega)
               rw [kk rq.1]
               refine AW.lw ?_ (kx k l h0 (by omega) h2 h3 (by omega) hx)
               exact (And.intro rfl (And.intro rfl (And.intro rfl (And.intro rfl (And.intro rfl (And.intro rfl (And.intro rfl (And.intro rfl trivial)))))))))
      · dsimp only [cmpI] at c57
        refine AW.go 1 (pc' := 61) rfl ?_
        refine AW.getf (pn := 64) rfl rfl flX1_15 (by first | assumption | exact HC_25 hl | exact HC_26 hl | exact HC_27 hl | exact (HC_ne (by first | decide | omega) (by first | decide | omega) (by first | decide | omega)).trans (by assumption)) rfl ?_
        refine AW.go 1 (pc' := 65) rfl ?_
        refine AW.getf (pn := 68) rfl rfl flX1_18 (by first | assumption | exact HC_25 hl | exact HC_26 hl | exact HC_27 hl | exact (HC_ne (by first | decide | omega) (by first | decide | omega) (by first | decide | omega)).trans (by assumption)) rfl ?_
        refine AW.go 2 (pc' := 70) rfl ?_
        refine AW.getf (pn := 73) rfl rfl flX1_15 (by first | assumption | exact HC_25 hl | exact HC_26 hl | exact HC_27 hl | exact (HC_ne (by first | decide | omega) (by first | decide | omega) (by first | decide | omega)).trans (by assumption)) rfl ?_
        refine AW.go 1 (pc' := 75) rfl ?_
        refine AW.iald (pn := 76) rfl rfl (by first | assumption | exact HC_25 hl | exact HC_26 hl | exact HC_27 hl | exact (HC_ne (by first | decide | omega) (by first | decide | omega) (by first | decide | omega)).trans (by assumption)) (by first | decide | omega) (by omega) (by omega) ?_
        rw [(hS k.toNat (by omega)).2]
        first | refine AW.orN (pn := 77) rfl rfl ?_ | refine AW.orN (y := 0) (pn := 77) rfl rfl ?_
        refine AW.go 1 (pc' := 79) rfl ?_
        rw [show vi q = vi (((q.toNat : Nat)) : Int) by rw [kk rq.1]]
        refine AW.callSF (pn := 82) rfl rfl mlX1_42 (c_X1_countWays _ 27 T (HC_27 hl) (sS f g) (sS_lt f g) L hL (T_c f g hS) q.toNat (d - 1) (by omega) (by omega) (u ||| sS f g (L.getD k.toNat 0))) rfl rfl (Nat.le_of_ble_eq_true rfl) ⟨by show d - 1 + 1 ≤ d; omega, by show 40 * (d - 1 + 1) ≤ 40 * d; omega⟩ ⟨Nat.zero_le _, Nat.zero_le _⟩ ?_
        refine AW.go 4 (pc' := 92) rfl ?_
        refine AW.bi (tgt := 98) (pn := 95) rfl (by decide) rfl (by first | exact bI_rng _ | exact ⟨by omega, by omega⟩) (by first | exact bI_rng _ | exact ⟨by omega, by omega⟩) (fun c92 => ?_) (fun c92 => ?_)
        · dsimp only [cmpI] at c92
          refine AW.go 6 (pc' := 39) rfl ?_
          first
            | (have ew : wy (sS f g) (en (sS f g) L q.toNat) u (L.getD k.toNat 0) = (en (sS f g) L q.toNat (u ||| sS f g (L.getD k.toNat 0))).length := if_pos (by omega)
               rw [kk rq.1]
               refine AW.lw ?_ (ih (k + 1) (l - (((en (sS f g) L q.toNat (u ||| sS f g (L.getD k.toNat 0))).length : Nat) : Int)) (by omega) (by omega) (by omega) (by omega) ?_ (by omega))
               · exact (And.intro rfl (And.intro rfl (And.intro rfl (And.intro rfl (And.intro rfl (And.intro rfl (And.intro rfl (And.intro rfl trivial))))))))
               · have := chs_ge (by omega) (by omega) hx
                 rw [k1 h0, ← this, ew]
                 congr 1
                 omega)
            | (have ew : wy (sS f g) (en (sS f g) L q.toNat) u (L.getD k.toNat 0) = 0 := if_neg (by omega)
               refine AW.lw ?_ (ih (k + 1) (l - 0) (by omega) (by omega) (by omega) (by omega) ?_ (by omega))
               · exact (And.intro rfl (And.intro rfl (And.intro rfl (And.intro rfl (And.intro rfl (And.intro rfl (And.intro rfl (And.intro rfl trivial))))))))
               · have := chs_ge (by omega) (by omega) hx
                 rw [k1 h0, ← this, ew]
                 congr 1
                 omega)
        · dsimp only [cmpI] at c92
          refine AW.go 1 (pc' := 111) rfl ?_
          first
            | (exfalso; omega)
            | (exfalso
               rw [List.drop_eq_nil_of_le (by omega)] at hx
               cases hx)
            | (have ew : wy (sS f g) (en (sS f g) L q.toNat) u (L.getD k.toNat 0) = (en (sS f g) L q.toNat (u ||| sS f g (L.getD k.toNat 0))).length := if_pos (by omega)
               rw [kk rq.1]
               refine AW.lw ?_ (kx k l h0 (by omega) h2 h3 (by omega) hx)
               exact (And.intro rfl (And.intro rfl (And.intro rfl (And.intro rfl (And.intro rfl (And.intro rfl (And.intro rfl (And.intro rfl trivial)))))))))
set_option maxHeartbeats 4000000 in
theorem l_X1_toneOfRow (d : Nat) (hd : 4 ≤ d) (h : List AC) (hl : 28 ≤ h.length) (f : Nat → Int) (g : Nat) (hg : g = 3 ∨ g = 4) (L : List Nat) (hL : L.length ≤ 48) (b : Nat) (o : Int) (K T : Nat → Int) (hS : SC f g K T L) (i p : Int) (rp : 0 ≤ p ∧ p < 12) (X : Int) : ∀ (n : Nat) (u : Nat) (l : Int) (e : Int) (q : Int) (x : List Nat), (-1 ≤ q) → (q ≤ 2) → (0 ≤ l) → (l < 1000000) → (e + (q + 1) * (g : Int) = 12) → (e ≤ p) → (0 ≤ e) → ((en (sS f g) L (q + 1).toNat u)[l.toNat]? = some x) → (X = tv f g x (p - e).toNat) → ((q + 1).toNat) < n → AW zX1_toneOfRow Eq (rmd d) 0 0 0 0 22 [(6, vi q), (3, vi (u : Int)), (4, vi l), (5, vi e), (0, vr 25), (1, vi i), (2, vi p)] [] (HC h (L.length : Int) (g : Int) (b : Int) o K T) (RQ X (HC h (L.length : Int) (g : Int) (b : Int) o K T)) := by
  intro n
  induction n with
  | zero =>
    intro u l e q x h0 h1 h2 h3 he hp he0 hx hX hn
    exact absurd hn (Nat.not_lt_zero _)
  | succ n ih =>
    intro u l e q x h0 h1 h2 h3 he hp he0 hx hX hn
    refine AW.go 1 (pc' := 24) rfl ?_
    refine AW.br (tgt := 165) (pn := 27) rfl (by decide) rfl (by first | exact bI_rng _ | exact ⟨by omega, by omega⟩) (fun c24 => ?_) (fun c24 => ?_)
    · dsimp only [cmpI] at c24
      exfalso; (rcases hg with rfl | rfl <;> omega)
    · dsimp only [cmpI] at c24
      refine AW.go 2 (pc' := 30) rfl ?_
      refine AW.getf (pn := 33) rfl rfl flX1_22 (by first | assumption | exact HC_25 hl | exact HC_26 hl | exact HC_27 hl | exact (HC_ne (by first | decide | omega) (by first | decide | omega) (by first | decide | omega)).trans (by assumption)) rfl ?_
      refine AW.go 4 (pc' := 39) rfl ?_
      rw [k1 (by omega)] at hx
      refine AW.lw ?_ (l1_X1_toneOfRow d hd h hl f g hg L hL b o K T hS i p rp X u (e + (g : Int)) q ⟨by omega, h1⟩ x (fun k l2 k0 k1' l0 l1 lw hx2 => ?_) _ 0 l (by omega) (by omega) h2 h3 hx (Nat.lt_succ_self _))
      · exact (And.intro rfl (And.intro rfl (And.intro rfl (And.intro rfl (And.intro rfl (And.intro rfl (And.intro rfl (And.intro rfl trivial))))))))
      · obtain ⟨y, rfl, hy, hz⟩ := chs_lt (by omega) (by omega) hx2
        refine AW.go 2 (pc' := 114) rfl ?_
        refine AW.getf (pn := 117) rfl rfl flX1_18 (by first | assumption | exact HC_25 hl | exact HC_26 hl | exact HC_27 hl | exact (HC_ne (by first | decide | omega) (by first | decide | omega) (by first | decide | omega)).trans (by assumption)) rfl ?_
        refine AW.bi (tgt := 123) (pn := 120) rfl (by decide) rfl (by first | exact bI_rng _ | exact ⟨by omega, by omega⟩) (by first | exact bI_rng _ | exact ⟨by omega, by omega⟩) (fun c117 => ?_) (fun c117 => ?_)
        · dsimp only [cmpI] at c117
          refine AW.go 2 (pc' := 126) rfl ?_
          refine AW.bi (tgt := 149) (pn := 129) rfl (by decide) rfl (by first | exact bI_rng _ | exact ⟨by omega, by omega⟩) (by first | exact bI_rng _ | exact ⟨by omega, by omega⟩) (fun c126 => ?_) (fun c126 => ?_)
          · dsimp only [cmpI] at c126
            refine AW.go 2 (pc' := 151) rfl ?_
            refine AW.getf (pn := 154) rfl rfl flX1_15 (by first | assumption | exact HC_25 hl | exact HC_26 hl | exact HC_27 hl | exact (HC_ne (by first | decide | omega) (by first | decide | omega) (by first | decide | omega)).trans (by assumption)) rfl ?_
            refine AW.go 1 (pc' := 156) rfl ?_
            refine AW.iald (pn := 157) rfl rfl (by first | assumption | exact HC_25 hl | exact HC_26 hl | exact HC_27 hl | exact (HC_ne (by first | decide | omega) (by first | decide | omega) (by first | decide | omega)).trans (by assumption)) (by first | decide | omega) (by omega) (by omega) ?_
            rw [(hS k.toNat (by omega)).2]
            first | refine AW.orN (pn := 158) rfl rfl ?_ | refine AW.orN (y := 0) (pn := 158) rfl rfl ?_
            refine AW.go 3 (pc' := 22) rfl ?_
            refine AW.lw ?_ (ih (u ||| sS f g (L.getD k.toNat 0)) l2 (e + (g : Int)) (q + -1) y (by omega) (by omega) l0 l1 ?_ (by omega) (by omega) ?_ ?_ (by omega))
            · exact (And.intro rfl (And.intro rfl (And.intro rfl (And.intro rfl (And.intro rfl (And.intro rfl (And.intro rfl trivial)))))))
            · rcases hg with rfl | rfl <;> omega
            · rw [show (q + -1 + 1).toNat = q.toNat by omega]; exact hy
            · rw [hX, tv_s (by omega) (by omega)]; congr 1; omega
          · dsimp only [cmpI] at c126
            refine AW.go 1 (pc' := 130) rfl ?_
            refine AW.getf (pn := 133) rfl rfl flX1_9 (by first | assumption | exact HC_25 hl | exact HC_26 hl | exact HC_27 hl | exact (HC_ne (by first | decide | omega) (by first | decide | omega) (by first | decide | omega)).trans (by assumption)) rfl ?_
            refine AW.go 1 (pc' := 135) rfl ?_
            refine AW.iald (pn := 136) rfl rfl (by first | assumption | exact HC_25 hl | exact HC_26 hl | exact HC_27 hl | exact (HC_ne (by first | decide | omega) (by first | decide | omega) (by first | decide | omega)).trans (by assumption)) (by first | decide | omega) (by omega) (by omega) ?_
            rw [(hS k.toNat (by omega)).1]
            have q3 := sK_lt hg (f := f) (L.getD k.toNat 0)
            refine AW.go 7 (pc' := 144) rfl ?_
            refine AW.ishr (pn := 145) rfl rfl (by first | exact bI_rng _ | exact ⟨by omega, by omega⟩) (by omega) (by omega) ?_
            refine AW.go 1 (pc' := 147) rfl ?_
            have q4 : 0 ≤ ((sK f g (L.getD k.toNat 0) : Nat) : Int) / 2 ^ ((e + (g : Int) - 1 - p) * 4).toNat := Int.ediv_nonneg (by omega) (Int.le_of_lt (Int.pow_pos (by decide)))
            refine AW.iand (pn := 148) rfl rfl (by omega) (by omega) ?_
            refine AW.ret rfl rfl (Nat.le_refl _) (Nat.le_refl _) ?_
            refine ⟨congrArg some ?_, rfl⟩
            rw [key_dig (by omega), show (e + (g : Int) - 1 - p).toNat = g - 1 - (p - e).toNat by omega, gk_at (by omega), hX, tv_0 (by omega)]
            have := ft_b f (g : Int) ((L.getD k.toNat 0 : Nat) : Int) (((p - e).toNat : Nat) : Int)
            omega
        · dsimp only [cmpI] at c117
          exfalso; omega
set_option maxHeartbeats 2000000 in
theorem c_X1_toneOfRow (d : Nat) (hd : 4 ≤ d) (h : List AC) (hl : 28 ≤ h.length) (f : Nat → Int) (g : Nat) (hg : g = 3 ∨ g = 4) (L : List Nat) (hL : L.length ≤ 48) (b : Nat) (o : Int) (K T : Nat → Int) (hS : SC f g K T L) (i p : Int) (rp : 0 ≤ p ∧ p < 12) (X : Int) (m : Nat) (hm : 1 ≤ m ∧ m ≤ 3) (ho : o = (m : Int)) (hmg : ((m : Int) + 1) * (g : Int) = 12) (hpg : (g : Int) ≤ p) (ri : 0 ≤ i ∧ i < 1000000) (x : List Nat) (hx : (en (sS f g) L m b)[i.toNat]? = some x) (hX : X = tv f g x (p.toNat - g)) : MF zX1_toneOfRow d [vr 25, vi i, vi p] (HC h (L.length : Int) (g : Int) (b : Int) o K T) X (HC h (L.length : Int) (g : Int) (b : Int) o K T) := by
  refine M0.of okX1_toneOfRow (Nat.le_of_ble_eq_true rfl) ?_
  refine AW.go 1 (pc' := 1) rfl ?_
  refine AW.getf (pn := 4) rfl rfl flX1_25 (by first | assumption | exact HC_25 hl | exact HC_26 hl | exact HC_27 hl | exact (HC_ne (by first | decide | omega) (by first | decide | omega) (by first | decide | omega)).trans (by assumption)) rfl ?_
  refine AW.go 4 (pc' := 9) rfl ?_
  refine AW.getf (pn := 12) rfl rfl flX1_22 (by first | assumption | exact HC_25 hl | exact HC_26 hl | exact HC_27 hl | exact (HC_ne (by first | decide | omega) (by first | decide | omega) (by first | decide | omega)).trans (by assumption)) rfl ?_
  refine AW.go 2 (pc' := 15) rfl ?_
  refine AW.getf (pn := 18) rfl rfl flX1_28 (by first | assumption | exact HC_25 hl | exact HC_26 hl | exact HC_27 hl | exact (HC_ne (by first | decide | omega) (by first | decide | omega) (by first | decide | omega)).trans (by assumption)) rfl ?_
  refine AW.go 3 (pc' := 22) rfl ?_
  refine AW.lw ?_ (l_X1_toneOfRow d hd h hl f g hg L hL b o K T hS i p rp X _ b i (g : Int) (o - 1) x (by omega) (by omega) ri.1 ri.2 ?_ hpg (by omega) ?_ ?_ (Nat.lt_succ_self _))
  · exact (And.intro rfl (And.intro rfl (And.intro rfl (And.intro rfl (And.intro rfl (And.intro rfl (And.intro rfl trivial)))))))
  · rw [show o - 1 + 1 = (m : Int) by omega]; rcases hg with rfl | rfl <;> omega
  · rw [show (o - 1 + 1).toNat = m by omega]; exact hx
  · rw [hX]; congr 1; omega
