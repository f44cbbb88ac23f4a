abbrev twl : Nat → Int := fun j => (j : Int) % 12
def MI (h u : List AC) : Prop := u.length = 39 ∧ (∀ x : Nat, x < 29 → u[x]? = h[x]?) ∧ u[29]? = some (ao 4 (mo 0 0 0 0 0)) ∧ u[30]? = some (ai 0 48 (mix twl zer 48)) ∧ u[31]? = some (ai 0 12 (mix hole zer 12)) ∧ u[32]? = some (ai 0 20 zer) ∧ u[33]? = some (ai 0 12 zer) ∧ u[34]? = some (ai 0 48 zer) ∧ u[35]? = some (ai 0 48 zer) ∧ u[36]? = some (ai 0 3 zer) ∧ u[37]? = some (ai 0 120 zer) ∧ u[38]? = some (ai 1 2 zer)

set_option maxHeartbeats 4000000 in
theorem l2_X4_init (d : Nat) (hd : 1 ≤ d) (h : List AC) (n0 : Nat) (hO : h[29]? = some (ao 4 (mo 0 0 0 0 0))) (hM : h[30]? = some (ai 0 48 zer)) (hT : h[31]? = some (ai 0 12 zer)) : ∀ (n : Nat) (k : Int), (0 ≤ k) → (k ≤ 12) → ((12 - k).toNat) < n → AW zX4_init (agr n0) (rmc d 9 313) 9 313 9 313 100 [(1, vi k), (0, vr 29)] [] ((h.set 30 (ai 0 48 (mix twl zer 48))).set 31 (ai 0 12 (mix hole zer k.toNat))) (fun v u => v = none ∧ u = ((h.set 30 (ai 0 48 (mix twl zer 48))).set 31 (ai 0 12 (mix hole zer 12)))) := by
  intro n
  induction n with
  | zero =>
    intro k h0 h1 hn
    exact absurd hn (Nat.not_lt_zero _)
  | succ n ih =>
    intro k h0 h1 hn
    refine AW.go 2 (pc' := 103) rfl ?_
    refine AW.bi (tgt := 120) (pn := 106) rfl (by decide) rfl (by first | exact bI_rng _ | exact ⟨by omega, by omega⟩) (by first | exact bI_rng _ | exact ⟨by omega, by omega⟩) (fun c103 => ?_) (fun c103 => ?_)
    · dsimp only [cmpI] at c103
      refine AW.retv rfl rfl (Nat.le_refl _) (Nat.le_refl _) ?_
      refine ⟨rfl, ?_⟩
      rw [show k.toNat = 12 by omega]
    · dsimp only [cmpI] at c103
      refine AW.go 1 (pc' := 107) rfl ?_
      refine AW.getf (pn := 110) rfl rfl flX4_13 (by first | assumption | exact set_self (by first | assumption | exact set_self (by first | assumption | exact set_self (by assumption) | exact set_ne (by first | assumption | decide | omega) (by assumption)) | exact set_ne (by first | assumption | decide | omega) (by first | assumption | exact set_self (by assumption) | exact set_ne (by first | assumption | decide | omega) (by assumption))) | exact set_ne (by first | assumption | decide | omega) (by first | assumption | exact set_self (by first | assumption | exact set_self (by assumption) | exact set_ne (by first | assumption | decide | omega) (by assumption)) | exact set_ne (by first | assumption | decide | omega) (by first | assumption | exact set_self (by assumption) | exact set_ne (by first | assumption | decide | omega) (by assumption)))) rfl ?_
      refine AW.go 2 (pc' := 113) rfl ?_
      refine AW.iast (pn := 114) rfl rfl (by first | assumption | exact set_self (by first | assumption | exact set_self (by first | assumption | exact set_self (by assumption) | exact set_ne (by first | assumption | decide | omega) (by assumption)) | exact set_ne (by first | assumption | decide | omega) (by first | assumption | exact set_self (by assumption) | exact set_ne (by first | assumption | decide | omega) (by assumption))) | exact set_ne (by first | assumption | decide | omega) (by first | assumption | exact set_self (by first | assumption | exact set_self (by assumption) | exact set_ne (by first | assumption | decide | omega) (by assumption)) | exact set_ne (by first | assumption | decide | omega) (by first | assumption | exact set_self (by assumption) | exact set_ne (by first | assumption | decide | omega) (by assumption)))) (by first | decide | omega) (by omega) (by omega) ?_
      refine AW.go 2 (pc' := 100) rfl ?_
      rw [List.set_set, show (-6 : Int) = hole k.toNat from rfl, mix_s, ← k1 h0]
      refine AW.lw ?_ (ih (k + 1) (by omega) (by omega) (by omega))
      exact (And.intro rfl (And.intro rfl trivial))
set_option maxHeartbeats 4000000 in
theorem l1_X4_init (d : Nat) (hd : 1 ≤ d) (h : List AC) (n0 : Nat) (hO : h[29]? = some (ao 4 (mo 0 0 0 0 0))) (hM : h[30]? = some (ai 0 48 zer)) (hT : h[31]? = some (ai 0 12 zer)) : ∀ (n : Nat) (k : Int), (0 ≤ k) → (k ≤ 48) → ((48 - k).toNat) < n → AW zX4_init (agr n0) (rmc d 9 313) 9 313 9 313 76 [(1, vi k), (0, vr 29)] [] (h.set 30 (ai 0 48 (mix twl zer k.toNat))) (fun v u => v = none ∧ u = ((h.set 30 (ai 0 48 (mix twl zer 48))).set 31 (ai 0 12 (mix hole zer 12)))) := by
  intro n
  induction n with
  | zero =>
    intro k h0 h1 hn
    exact absurd hn (Nat.not_lt_zero _)
  | succ n ih =>
    intro k h0 h1 hn
    refine AW.go 2 (pc' := 79) rfl ?_
    refine AW.bi (tgt := 98) (pn := 82) rfl (by decide) rfl (by first | exact bI_rng _ | exact ⟨by omega, by omega⟩) (by first | exact bI_rng _ | exact ⟨by omega, by omega⟩) (fun c79 => ?_) (fun c79 => ?_)
    · dsimp only [cmpI] at c79
      refine AW.go 2 (pc' := 100) rfl ?_
      rw [show k.toNat = 48 by omega]
      have e := l2_X4_init d hd h n0 hO hM hT _ 0 (by omega) (by omega) (Nat.lt_succ_self _)
      rw [show (0 : Int).toNat = 0 from rfl, mix_0, set_same (set_ne (by decide) hT)] at e
      refine AW.lw ?_ e
      exact (And.intro rfl (And.intro rfl trivial))
    · dsimp only [cmpI] at c79
      refine AW.go 1 (pc' := 83) rfl ?_
      refine AW.getf (pn := 86) rfl rfl flX4_7 (by first | assumption | exact set_self (by first | assumption | exact set_self (by first | assumption | exact set_self (by assumption) | exact set_ne (by first | assumption | decide | omega) (by assumption)) | exact set_ne (by first | assumption | decide | omega) (by first | assumption | exact set_self (by assumption) | exact set_ne (by first | assumption | decide | omega) (by assumption))) | exact set_ne (by first | assumption | decide | omega) (by first | assumption | exact set_self (by first | assumption | exact set_self (by assumption) | exact set_ne (by first | assumption | decide | omega) (by assumption)) | exact set_ne (by first | assumption | decide | omega) (by first | assumption | exact set_self (by assumption) | exact set_ne (by first | assumption | decide | omega) (by assumption)))) rfl ?_
      refine AW.go 3 (pc' := 90) rfl ?_
      refine AW.irem (pn := 91) rfl rfl (by omega) (by omega) (by omega) (by omega) ?_
      refine AW.iast (pn := 92) rfl rfl (by first | assumption | exact set_self (by first | assumption | exact set_self (by first | assumption | exact set_self (by assumption) | exact set_ne (by first | assumption | decide | omega) (by assumption)) | exact set_ne (by first | assumption | decide | omega) (by first | assumption | exact set_self (by assumption) | exact set_ne (by first | assumption | decide | omega) (by assumption))) | exact set_ne (by first | assumption | decide | omega) (by first | assumption | exact set_self (by first | assumption | exact set_self (by assumption) | exact set_ne (by first | assumption | decide | omega) (by assumption)) | exact set_ne (by first | assumption | decide | omega) (by first | assumption | exact set_self (by assumption) | exact set_ne (by first | assumption | decide | omega) (by assumption)))) (by first | decide | omega) (by omega) (by omega) ?_
      refine AW.go 2 (pc' := 76) rfl ?_
      rw [List.set_set, show k % 12 = twl k.toNat by show _ = (k.toNat : Int) % 12; rw [kk h0], mix_s, ← k1 h0]
      refine AW.lw ?_ (ih (k + 1) (by omega) (by omega) (by omega))
      exact (And.intro rfl (And.intro rfl trivial))
set_option maxHeartbeats 4000000 in
theorem c_X4_init (d : Nat) (hd : 1 ≤ d) (h : List AC) (hl : h.length = 30) (hi : h[29]? = some (ao 4 [vn, vn, vn, vi 0, vi 0, vn, vn, vn, vi 0, vn, vn, vn, vi 0, vi 0])) (hc : clo h) : M1 zX4_init d 9 313 [vr 29] h (fun v u => v = none ∧ MI h u) := by
  refine M1.of okX4_init (Nat.le_of_ble_eq_true rfl) rfl ?_
  refine AW.go 1 (pc' := 1) rfl ?_
  refine AW.objI (pn := 4) rfl rfl obX4 ⟨by show 1 ≤ d; omega, by show _ ≤ 40 * d; simp; omega⟩ ?_
  refine AW.go 2 (pc' := 7) rfl ?_
  refine AW.arrF (N := 48) (p2 := 9) (pn := 12) (t := 0) rfl rfl (Or.inl ⟨rfl, rfl⟩) (by decide) rfl rfl flX4_7 rfl fkX4_7 rfl hi rfl trivial hc (And.intro (show 29 < h.length by omega) trivial) trivial (by omega) ⟨by show _ ≤ 9; decide, by show _ ≤ 313; decide⟩ ?_
  intro u0 l0 f0 o0 n0 c0
  rw [hl] at l0 f0 o0 n0
  have b0 : u0[29]? = some (ao 4 [vr 30, vn, vn, vi 0, vi 0, vn, vn, vn, vi 0, vn, vn, vn, vi 0, vi 0]) := o0
  have g0 : ∀ x, x < 29 → u0[x]? = h[x]? := fun x hx => f0 x (by omega) (by omega)
  refine AW.go 2 (pc' := 15) rfl ?_
  refine AW.arrF (N := 12) (p2 := 17) (pn := 20) (t := 0) rfl rfl (Or.inl ⟨rfl, rfl⟩) (by decide) rfl rfl flX4_13 rfl fkX4_13 rfl b0 rfl trivial c0 (And.intro (show 29 < u0.length by omega) trivial) trivial (by omega) ⟨by show _ ≤ 9; decide, by show _ ≤ 313; decide⟩ ?_
  intro u1 l1 f1 o1 n1 c1
  rw [l0] at l1 f1 o1 n1
  have b1 : u1[29]? = some (ao 4 [vr 30, vr 31, vn, vi 0, vi 0, vn, vn, vn, vi 0, vn, vn, vn, vi 0, vi 0]) := o1
  have a30_1 : u1[30]? = some (ai 0 48 zer) := (f1 30 (by decide) (by decide)).trans n0
  have g1 : ∀ x, x < 29 → u1[x]? = h[x]? := fun x hx => (f1 x (by omega) (by omega)).trans (g0 x hx)
  refine AW.go 2 (pc' := 23) rfl ?_
  refine AW.arrF (N := 20) (p2 := 25) (pn := 28) (t := 0) rfl rfl (Or.inl ⟨rfl, rfl⟩) (by decide) rfl rfl flX4_16 rfl fkX4_16 rfl b1 rfl trivial c1 (And.intro (show 29 < u1.length by omega) trivial) trivial (by omega) ⟨by show _ ≤ 9; decide, by show _ ≤ 313; decide⟩ ?_
  intro u2 l2 f2 o2 n2 c2
  rw [l1] at l2 f2 o2 n2
  have b2 : u2[29]? = some (ao 4 [vr 30, vr 31, vr 32, vi 0, vi 0, vn, vn, vn, vi 0, vn, vn, vn, vi 0, vi 0]) := o2
  have a30_2 : u2[30]? = some (ai 0 48 zer) := (f2 30 (by decide) (by decide)).trans a30_1
  have a31_2 : u2[31]? = some (ai 0 12 zer) := (f2 31 (by decide) (by decide)).trans n1
  have g2 : ∀ x, x < 29 → u2[x]? = h[x]? := fun x hx => (f2 x (by omega) (by omega)).trans (g1 x hx)
  refine AW.go 2 (pc' := 31) rfl ?_
  refine AW.arrF (N := 12) (p2 := 33) (pn := 36) (t := 0) rfl rfl (Or.inl ⟨rfl, rfl⟩) (by decide) rfl rfl flX4_19 rfl fkX4_19 rfl b2 rfl trivial c2 (And.intro (show 29 < u2.length by omega) trivial) trivial (by omega) ⟨by show _ ≤ 9; decide, by show _ ≤ 313; decide⟩ ?_
  intro u3 l3 f3 o3 n3 c3
  rw [l2] at l3 f3 o3 n3
  have b3 : u3[29]? = some (ao 4 [vr 30, vr 31, vr 32, vi 0, vi 0, vr 33, vn, vn, vi 0, vn, vn, vn, vi 0, vi 0]) := o3
  have a30_3 : u3[30]? = some (ai 0 48 zer) := (f3 30 (by decide) (by decide)).trans a30_2
  have a31_3 : u3[31]? = some (ai 0 12 zer) := (f3 31 (by decide) (by decide)).trans a31_2
  have a32_3 : u3[32]? = some (ai 0 20 zer) := (f3 32 (by decide) (by decide)).trans n2
  have g3 : ∀ x, x < 29 → u3[x]? = h[x]? := fun x hx => (f3 x (by omega) (by omega)).trans (g2 x hx)
  refine AW.go 2 (pc' := 39) rfl ?_
  refine AW.arrF (N := 48) (p2 := 41) (pn := 44) (t := 0) rfl rfl (Or.inl ⟨rfl, rfl⟩) (by decide) rfl rfl flX4_22 rfl fkX4_22 rfl b3 rfl trivial c3 (And.intro (show 29 < u3.length by omega) trivial) trivial (by omega) ⟨by show _ ≤ 9; decide, by show _ ≤ 313; decide⟩ ?_
  intro u4 l4 f4 o4 n4 c4
  rw [l3] at l4 f4 o4 n4
  have b4 : u4[29]? = some (ao 4 [vr 30, vr 31, vr 32, vi 0, vi 0, vr 33, vr 34, vn, vi 0, vn, vn, vn, vi 0, vi 0]) := o4
  have a30_4 : u4[30]? = some (ai 0 48 zer) := (f4 30 (by decide) (by decide)).trans a30_3
  have a31_4 : u4[31]? = some (ai 0 12 zer) := (f4 31 (by decide) (by decide)).trans a31_3
  have a32_4 : u4[32]? = some (ai 0 20 zer) := (f4 32 (by decide) (by decide)).trans a32_3
  have a33_4 : u4[33]? = some (ai 0 12 zer) := (f4 33 (by decide) (by decide)).trans n3
  have g4 : ∀ x, x < 29 → u4[x]? = h[x]? := fun x hx => (f4 x (by omega) (by omega)).trans (g3 x hx)
  refine AW.go 2 (pc' := 47) rfl ?_
  refine AW.arrF (N := 48) (p2 := 49) (pn := 52) (t := 0) rfl rfl (Or.inl ⟨rfl, rfl⟩) (by decide) rfl rfl flX4_25 rfl fkX4_25 rfl b4 rfl trivial c4 (And.intro (show 29 < u4.length by omega) trivial) trivial (by omega) ⟨by show _ ≤ 9; decide, by show _ ≤ 313; decide⟩ ?_
  intro u5 l5 f5 o5 n5 c5
  rw [l4] at l5 f5 o5 n5
  have b5 : u5[29]? = some (ao 4 [vr 30, vr 31, vr 32, vi 0, vi 0, vr 33, vr 34, vr 35, vi 0, vn, vn, vn, vi 0, vi 0]) := o5
  have a30_5 : u5[30]? = some (ai 0 48 zer) := (f5 30 (by decide) (by decide)).trans a30_4
  have a31_5 : u5[31]? = some (ai 0 12 zer) := (f5 31 (by decide) (by decide)).trans a31_4
  have a32_5 : u5[32]? = some (ai 0 20 zer) := (f5 32 (by decide) (by decide)).trans a32_4
  have a33_5 : u5[33]? = some (ai 0 12 zer) := (f5 33 (by decide) (by decide)).trans a33_4
  have a34_5 : u5[34]? = some (ai 0 48 zer) := (f5 34 (by decide) (by decide)).trans n4
  have g5 : ∀ x, x < 29 → u5[x]? = h[x]? := fun x hx => (f5 x (by omega) (by omega)).trans (g4 x hx)
  refine AW.go 2 (pc' := 54) rfl ?_
  refine AW.arrF (N := 3) (p2 := 56) (pn := 59) (t := 0) rfl rfl (Or.inl ⟨rfl, rfl⟩) (by decide) rfl rfl flX4_28 rfl fkX4_28 rfl b5 rfl trivial c5 (And.intro (show 29 < u5.length by omega) trivial) trivial (by omega) ⟨by show _ ≤ 9; decide, by show _ ≤ 313; decide⟩ ?_
  intro u6 l6 f6 o6 n6 c6
  rw [l5] at l6 f6 o6 n6
  have b6 : u6[29]? = some (ao 4 [vr 30, vr 31, vr 32, vi 0, vi 0, vr 33, vr 34, vr 35, vi 0, vr 36, vn, vn, vi 0, vi 0]) := o6
  have a30_6 : u6[30]? = some (ai 0 48 zer) := (f6 30 (by decide) (by decide)).trans a30_5
  have a31_6 : u6[31]? = some (ai 0 12 zer) := (f6 31 (by decide) (by decide)).trans a31_5
  have a32_6 : u6[32]? = some (ai 0 20 zer) := (f6 32 (by decide) (by decide)).trans a32_5
  have a33_6 : u6[33]? = some (ai 0 12 zer) := (f6 33 (by decide) (by decide)).trans a33_5
  have a34_6 : u6[34]? = some (ai 0 48 zer) := (f6 34 (by decide) (by decide)).trans a34_5
  have a35_6 : u6[35]? = some (ai 0 48 zer) := (f6 35 (by decide) (by decide)).trans n5
  have g6 : ∀ x, x < 29 → u6[x]? = h[x]? := fun x hx => (f6 x (by omega) (by omega)).trans (g5 x hx)
  refine AW.go 2 (pc' := 62) rfl ?_
  refine AW.arrF (N := 120) (p2 := 64) (pn := 67) (t := 0) rfl rfl (Or.inl ⟨rfl, rfl⟩) (by decide) rfl rfl flX4_31 rfl fkX4_31 rfl b6 rfl trivial c6 (And.intro (show 29 < u6.length by omega) trivial) trivial (by omega) ⟨by show _ ≤ 9; decide, by show _ ≤ 313; decide⟩ ?_
  intro u7 l7 f7 o7 n7 c7
  rw [l6] at l7 f7 o7 n7
  have b7 : u7[29]? = some (ao 4 [vr 30, vr 31, vr 32, vi 0, vi 0, vr 33, vr 34, vr 35, vi 0, vr 36, vr 37, vn, vi 0, vi 0]) := o7
  have a30_7 : u7[30]? = some (ai 0 48 zer) := (f7 30 (by decide) (by decide)).trans a30_6
  have a31_7 : u7[31]? = some (ai 0 12 zer) := (f7 31 (by decide) (by decide)).trans a31_6
  have a32_7 : u7[32]? = some (ai 0 20 zer) := (f7 32 (by decide) (by decide)).trans a32_6
  have a33_7 : u7[33]? = some (ai 0 12 zer) := (f7 33 (by decide) (by decide)).trans a33_6
  have a34_7 : u7[34]? = some (ai 0 48 zer) := (f7 34 (by decide) (by decide)).trans a34_6
  have a35_7 : u7[35]? = some (ai 0 48 zer) := (f7 35 (by decide) (by decide)).trans a35_6
  have a36_7 : u7[36]? = some (ai 0 3 zer) := (f7 36 (by decide) (by decide)).trans n6
  have g7 : ∀ x, x < 29 → u7[x]? = h[x]? := fun x hx => (f7 x (by omega) (by omega)).trans (g6 x hx)
  refine AW.go 2 (pc' := 69) rfl ?_
  refine AW.arrF (N := 2) (p2 := 71) (pn := 74) (t := 1) rfl rfl (Or.inr ⟨rfl, rfl⟩) (by decide) rfl rfl flX4_34 rfl fkX4_34 rfl b7 rfl trivial c7 (And.intro (show 29 < u7.length by omega) trivial) trivial (by omega) ⟨by show _ ≤ 9; decide, by show _ ≤ 313; decide⟩ ?_
  intro u8 l8 f8 o8 n8 c8
  rw [l7] at l8 f8 o8 n8
  have b8 : u8[29]? = some (ao 4 [vr 30, vr 31, vr 32, vi 0, vi 0, vr 33, vr 34, vr 35, vi 0, vr 36, vr 37, vr 38, vi 0, vi 0]) := o8
  have a30_8 : u8[30]? = some (ai 0 48 zer) := (f8 30 (by decide) (by decide)).trans a30_7
  have a31_8 : u8[31]? = some (ai 0 12 zer) := (f8 31 (by decide) (by decide)).trans a31_7
  have a32_8 : u8[32]? = some (ai 0 20 zer) := (f8 32 (by decide) (by decide)).trans a32_7
  have a33_8 : u8[33]? = some (ai 0 12 zer) := (f8 33 (by decide) (by decide)).trans a33_7
  have a34_8 : u8[34]? = some (ai 0 48 zer) := (f8 34 (by decide) (by decide)).trans a34_7
  have a35_8 : u8[35]? = some (ai 0 48 zer) := (f8 35 (by decide) (by decide)).trans a35_7
  have a36_8 : u8[36]? = some (ai 0 3 zer) := (f8 36 (by decide) (by decide)).trans a36_7
  have a37_8 : u8[37]? = some (ai 0 120 zer) := (f8 37 (by decide) (by decide)).trans n7
  have g8 : ∀ x, x < 29 → u8[x]? = h[x]? := fun x hx => (f8 x (by omega) (by omega)).trans (g7 x hx)
  refine AW.go 2 (pc' := 76) rfl ?_
  have e := l1_X4_init d hd u8 h.length b8 a30_8 a31_8 _ 0 (by omega) (by omega) (Nat.lt_succ_self _)
  rw [show (0 : Int).toNat = 0 from rfl, mix_0, set_same a30_8] at e
  refine AW.lw ?_ (AW.post e (fun v u hq => ?_))
  · exact And.intro rfl (And.intro rfl trivial)
  · obtain ⟨rfl, rfl⟩ := hq
    refine ⟨rfl, by rw [List.length_set, List.length_set]; omega, fun x hx => ?_, ?_, ?_, ?_, ?_, ?_, ?_, ?_, ?_, ?_, ?_⟩
    · rw [set_out (by omega), set_out (by omega)]; exact g8 x hx
    · rw [set_out (by decide), set_out (by decide)]; exact b8
    · rw [set_out (by decide)]; exact set_self a30_8
    · exact set_self (set_ne (by decide) a31_8)
    · rw [set_out (by decide), set_out (by decide)]; exact a32_8
    · rw [set_out (by decide), set_out (by decide)]; exact a33_8
    · rw [set_out (by decide), set_out (by decide)]; exact a34_8
    · rw [set_out (by decide), set_out (by decide)]; exact a35_8
    · rw [set_out (by decide), set_out (by decide)]; exact a36_8
    · rw [set_out (by decide), set_out (by decide)]; exact a37_8
    · rw [set_out (by decide), set_out (by decide)]; exact n8
