theorem clo_app {h E : List AC} (hc : clo h) (hE : ∀ e ∈ E, limC (h.length + E.length) e) : clo (h ++ E) := by
  intro x hx
  rw [List.length_append]
  rcases List.mem_append.mp hx with q | q
  · exact limC_mono (Nat.le_add_right _ _) (hc x q)
  · exact hE x q
section Rules
variable {z : ZM} {R : Room} {MC MS k n pc pn p2 n0 : Nat} {ls : List (Nat × AV)} {st : List AV} {h : List AC} {Q : Option Int → List AC → Prop}
theorem AW.mnaF {idx idx2 ci j i : Nat} {ty : FieldType} {fs : List AV} {v0 : AV} (hf : ftch z.2.2.2.2 pc = some (.multianewarray idx 2, 4)) (hn : pc + 4 = p2) (hw : Cond.classLink z.1.cls idx ("[" ++ (FieldType.array .int).toString) ∈ gtb ∧ Cond.arrayClass .int ∈ gtb) (hf2 : ftch z.2.2.2.2 p2 = some (.putfield idx2, 3)) (hn2 : p2 + 3 = pn) (fl : FL z.1.cls idx2 ci j ty true) (hown2 : (classes[ci]?).map (fun q => q.1) = some z.1.cls) (hlk2 : ∀ q : vw_C, classes[ci]? = some q → Cond.fieldLink z.1.cls idx2 (q.2.1 j).1 (q.2.1 j).2.1 (q.2.1 j).2.2.1 ∈ gtb) (hinit : z.1.name = "<init>") (hh : h[i]? = some (ao ci fs)) (hv : fs[j]? = some v0) (ok : okv ty (vr h.length)) (hcl : clo h) (hls : lsl h.length ls) (hst : stl h.length st) (h0 : n0 ≤ h.length) (hr : k + 5 ≤ R.cells ∧ n + 52 ≤ R.slots)
    (kk : ∀ u : List AC, u.length = h.length + 5 → (∀ x : Nat, x ≠ i → x < h.length → u[x]? = h[x]?) → u[i]? = some (ao ci (fs.set j (vr h.length))) → u[h.length]? = some (aq 3 4 (fun i => if i < 4 then some (h.length + 1 + i) else none)) → (∀ r : Nat, r < 4 → u[h.length + 1 + r]? = some (ai 0 12 (fun _ => 0))) → clo u → AW z (agr n0) R MC MS (k + 5) (n + 52) pn ls st u Q) : AW z (agr n0) R MC MS k n pc ls (vi 12 :: vi 4 :: vr i :: st) h Q := by
  have hil : i < h.length := (List.getElem?_eq_some_iff.mp hh).1
  refine AW.mna hf hn hw hcl (lsl_ok hls) (stl_ok (l := vr i :: st) ⟨hil, hst⟩) h0 hr ?_
  refine AW.putF hf2 hn2 fl hown2 hlk2 hinit (app_old hh) hv ok ?_
  have hnew : ∀ r : Nat, (h ++ [aq 3 4 (fun i => if i < 4 then some (h.length + 1 + i) else none), ai 0 12 (fun _ => 0), ai 0 12 (fun _ => 0), ai 0 12 (fun _ => 0), ai 0 12 (fun _ => 0)])[h.length + r]? = [aq 3 4 (fun i => if i < 4 then some (h.length + 1 + i) else none), ai 0 12 (fun _ => 0), ai 0 12 (fun _ => 0), ai 0 12 (fun _ => 0), ai 0 12 (fun _ => 0)][r]? := fun r => by
    rw [List.getElem?_append_right (Nat.le_add_right _ _), Nat.add_sub_cancel_left]
  refine kk _ (by rw [List.length_set, List.length_append]; rfl) (fun x hx hl => ?_) (set_self (app_old hh)) ?_ (fun r hr => ?_) ?_
  · rw [List.getElem?_set_ne (fun q => hx q.symm), List.getElem?_append_left hl]
  · rw [List.getElem?_set_ne (by omega)]; exact hnew 0
  · rw [List.getElem?_set_ne (by omega), show h.length + 1 + r = h.length + (1 + r) by omega, hnew]
    match r, hr with
    | 0, _ => rfl
    | 1, _ => rfl
    | 2, _ => rfl
    | 3, _ => rfl
  · refine clo_set (clo_app hcl (fun e he => ?_)) ?_
    · simp only [List.mem_cons, List.not_mem_nil, or_false] at he
      rcases he with rfl | rfl | rfl | rfl | rfl
      · intro j q hq
        by_cases hj : j < 4
        · have hq : (if j < 4 then some (h.length + 1 + j) else none) = some q := hq
          rw [if_pos hj] at hq
          cases hq
          show h.length + 1 + j < h.length + 5
          omega
        · have hq : (if j < 4 then some (h.length + 1 + j) else none) = some q := hq
          rw [if_neg hj] at hq; cases hq
      · trivial
      · trivial
      · trivial
      · trivial
    · rw [List.length_append]
      exact mem_set_lim (fun x hx => lim_mono (Nat.le_add_right _ _) (obj_lim hcl hh x hx)) (show h.length < h.length + 5 by omega)
end Rules
abbrev rise : Nat → Int := fun j => (j : Int)
abbrev zer : Nat → Int := fun _ => 0
abbrev hole : Nat → Int := fun _ => -6
/-- a store under way: the pattern to a, rows below r to b and a place more -/
def SP (h u : List AC) (S a b r : Nat) : Prop := u.length = S + 7 ∧ (∀ x : Nat, x < S → u[x]? = h[x]?) ∧ u[S]? = some (ao 2 [vr (S + 1), vr (S + 6), vi 0]) ∧ u[S + 1]? = some (aq 3 4 (rwS S)) ∧ (∀ i : Nat, i < 4 → u[S + 2 + i]? = some (ai 0 12 (mix rise zer (if i < r then b + 1 else b)))) ∧ u[S + 6]? = some (ai 0 12 (mix hole zer a)) ∧ clo u

set_option maxHeartbeats 4000000 in
theorem li_X2_init (d : Nat) (hd : 1 ≤ d) (h : List AC) (S : Nat) (hS : h.length = S + 1) (k : Int) (hk : 0 ≤ k ∧ k < 12) (K : ∀ u, SP h u S (k.toNat + 1) (k.toNat + 1) 0 → AW zX2_init (agr h.length) (rmc d 6 64) 6 64 6 64 66 [(1, vi k), (0, vr S)] [] u (fun v u => v = none ∧ SP h u S 12 12 0)) : ∀ (n : Nat) (r : Int) (u : List AC), (0 ≤ r) → (r ≤ 4) → (SP h u S (k.toNat + 1) k.toNat r.toNat) → ((4 - r).toNat) < n → AW zX2_init (agr h.length) (rmc d 6 64) 6 64 6 64 46 [(2, vi r), (1, vi k), (0, vr S)] [] u (fun v u => v = none ∧ SP h u S 12 12 0) := by
  intro n
  induction n with
  | zero =>
    intro r u h0 h1 hu hn
    exact absurd hn (Nat.not_lt_zero _)
  | succ n ih =>
    intro r u h0 h1 hu hn
    refine AW.go 2 (pc' := 48) rfl ?_
    refine AW.bi (tgt := 66) (pn := 51) rfl (by decide) rfl (by first | exact bI_rng _ | exact ⟨by omega, by omega⟩) (by first | exact bI_rng _ | exact ⟨by omega, by omega⟩) (fun c48 => ?_) (fun c48 => ?_)
    · dsimp only [cmpI] at c48
      refine AW.lw ?_ (K u ?_)
      · exact (And.intro rfl (And.intro rfl trivial))
      · obtain ⟨a1, a2, a3, a4, a5, a6, a7⟩ := hu
        refine ⟨a1, a2, a3, a4, fun i hi => ?_, a6, a7⟩
        rw [a5 i hi, if_pos (by omega), if_neg (Nat.not_lt_zero _)]
    · dsimp only [cmpI] at c48
      obtain ⟨a1, a2, a3, a4, a5, a6, a7⟩ := hu
      have ar := a5 r.toNat (by omega)
      rw [if_neg (Nat.lt_irrefl _)] at ar
      refine AW.go 1 (pc' := 52) rfl ?_
      refine AW.getf (pn := 55) rfl rfl flX2_11 (by first | assumption | exact set_self (by first | assumption | exact set_self (by first | assumption | exact set_self (by assumption) | exact set_ne (by first | assumption | decide | omega) (by assumption)) | exact set_ne (by first | assumption | decide | omega) (by first | assumption | exact set_self (by assumption) | exact set_ne (by first | assumption | decide | omega) (by assumption))) | exact set_ne (by first | assumption | decide | omega) (by first | assumption | exact set_self (by first | assumption | exact set_self (by assumption) | exact set_ne (by first | assumption | decide | omega) (by assumption)) | exact set_ne (by first | assumption | decide | omega) (by first | assumption | exact set_self (by assumption) | exact set_ne (by first | assumption | decide | omega) (by assumption)))) rfl ?_
      refine AW.go 1 (pc' := 56) rfl ?_
      refine AW.aald (pn := 57) rfl rfl (by first | assumption | exact set_self (by first | assumption | exact set_self (by first | assumption | exact set_self (by assumption) | exact set_ne (by first | assumption | decide | omega) (by assumption)) | exact set_ne (by first | assumption | decide | omega) (by first | assumption | exact set_self (by assumption) | exact set_ne (by first | assumption | decide | omega) (by assumption))) | exact set_ne (by first | assumption | decide | omega) (by first | assumption | exact set_self (by first | assumption | exact set_self (by assumption) | exact set_ne (by first | assumption | decide | omega) (by assumption)) | exact set_ne (by first | assumption | decide | omega) (by first | assumption | exact set_self (by assumption) | exact set_ne (by first | assumption | decide | omega) (by assumption)))) (by decide) (by decide) (by omega) (by omega) (rwS_at (by omega)) ?_
      refine AW.go 2 (pc' := 59) rfl ?_
      refine AW.iast (pn := 60) rfl rfl (by first | assumption | exact set_self (by first | assumption | exact set_self (by first | assumption | exact set_self (by assumption) | exact set_ne (by first | assumption | decide | omega) (by assumption)) | exact set_ne (by first | assumption | decide | omega) (by first | assumption | exact set_self (by assumption) | exact set_ne (by first | assumption | decide | omega) (by assumption))) | exact set_ne (by first | assumption | decide | omega) (by first | assumption | exact set_self (by first | assumption | exact set_self (by assumption) | exact set_ne (by first | assumption | decide | omega) (by assumption)) | exact set_ne (by first | assumption | decide | omega) (by first | assumption | exact set_self (by assumption) | exact set_ne (by first | assumption | decide | omega) (by assumption)))) (by first | decide | omega) (by omega) (by omega) ?_
      refine AW.go 2 (pc' := 46) rfl ?_
      refine AW.lw ?_ (ih (r + 1) _ (by omega) (by omega) ?_ (by omega))
      · exact (And.intro rfl (And.intro rfl (And.intro rfl trivial)))
      · refine ⟨by rw [List.length_set]; exact a1, fun x hx => ?_, ?_, ?_, fun i hi => ?_, ?_, clo_set a7 trivial⟩
        · rw [set_out (by omega)]; exact a2 x hx
        · rw [set_out (by omega)]; exact a3
        · rw [set_out (by omega)]; exact a4
        · by_cases e : i = r.toNat
          · rw [e, if_pos (by omega)]
            have e9 : up (mix rise zer k.toNat) k.toNat k = mix rise zer (k.toNat + 1) := by
              have := mix_s rise zer k.toNat
              rw [show rise k.toNat = k from kk hk.1] at this
              exact this
            rw [← e9]
            exact set_self ar
          · rw [set_out (by omega), a5 i hi]
            by_cases e2 : i < r.toNat
            · rw [if_pos e2, if_pos (by omega)]
            · rw [if_neg e2, if_neg (by omega)]
        · rw [set_out (by omega)]; exact a6
set_option maxHeartbeats 4000000 in
theorem l_X2_init (d : Nat) (hd : 1 ≤ d) (h : List AC) (S : Nat) (hS : h.length = S + 1) : ∀ (n : Nat) (k : Int) (u : List AC), (0 ≤ k) → (k ≤ 12) → (SP h u S k.toNat k.toNat 0) → ((12 - k).toNat) < n → AW zX2_init (agr h.length) (rmc d 6 64) 6 64 6 64 30 [(1, vi k), (0, vr S)] [] u (fun v u => v = none ∧ SP h u S 12 12 0) := by
  intro n
  induction n with
  | zero =>
    intro k u h0 h1 hu hn
    exact absurd hn (Nat.not_lt_zero _)
  | succ n ih =>
    intro k u h0 h1 hu hn
    refine AW.go 2 (pc' := 33) rfl ?_
    refine AW.bi (tgt := 72) (pn := 36) rfl (by decide) rfl (by first | exact bI_rng _ | exact ⟨by omega, by omega⟩) (by first | exact bI_rng _ | exact ⟨by omega, by omega⟩) (fun c33 => ?_) (fun c33 => ?_)
    · dsimp only [cmpI] at c33
      refine AW.retv rfl rfl (Nat.le_refl _) (Nat.le_refl _) ?_
      refine ⟨rfl, ?_⟩
      rw [show k.toNat = 12 by omega] at hu
      exact hu
    · dsimp only [cmpI] at c33
      obtain ⟨a1, a2, a3, a4, a5, a6, a7⟩ := hu
      refine AW.go 1 (pc' := 37) rfl ?_
      refine AW.getf (pn := 40) rfl rfl flX2_16 (by first | assumption | exact set_self (by first | assumption | exact set_self (by first | assumption | exact set_self (by assumption) | exact set_ne (by first | assumption | decide | omega) (by assumption)) | exact set_ne (by first | assumption | decide | omega) (by first | assumption | exact set_self (by assumption) | exact set_ne (by first | assumption | decide | omega) (by assumption))) | exact set_ne (by first | assumption | decide | omega) (by first | assumption | exact set_self (by first | assumption | exact set_self (by assumption) | exact set_ne (by first | assumption | decide | omega) (by assumption)) | exact set_ne (by first | assumption | decide | omega) (by first | assumption | exact set_self (by assumption) | exact set_ne (by first | assumption | decide | omega) (by assumption)))) rfl ?_
      refine AW.go 2 (pc' := 43) rfl ?_
      refine AW.iast (pn := 44) rfl rfl (by first | assumption | exact set_self (by first | assumption | exact set_self (by first | assumption | exact set_self (by assumption) | exact set_ne (by first | assumption | decide | omega) (by assumption)) | exact set_ne (by first | assumption | decide | omega) (by first | assumption | exact set_self (by assumption) | exact set_ne (by first | assumption | decide | omega) (by assumption))) | exact set_ne (by first | assumption | decide | omega) (by first | assumption | exact set_self (by first | assumption | exact set_self (by assumption) | exact set_ne (by first | assumption | decide | omega) (by assumption)) | exact set_ne (by first | assumption | decide | omega) (by first | assumption | exact set_self (by assumption) | exact set_ne (by first | assumption | decide | omega) (by assumption)))) (by first | decide | omega) (by omega) (by omega) ?_
      refine AW.go 2 (pc' := 46) rfl ?_
      refine AW.lw ?_ (li_X2_init d hd h S hS k (by omega) ?_ _ 0 _ (by omega) (by omega) ?_ (Nat.lt_succ_self _))
      · exact (And.intro rfl (And.intro rfl (And.intro rfl trivial)))
      · intro w hw
        refine AW.go 2 (pc' := 30) rfl ?_
        refine AW.lw ?_ (ih (k + 1) _ (by omega) (by omega) ?_ (by omega))
        · exact (And.intro rfl (And.intro rfl trivial))
        · rw [k1 h0]; exact hw
      · refine ⟨by rw [List.length_set]; exact a1, fun x hx => ?_, ?_, ?_, fun i hi => ?_, ?_, clo_set a7 trivial⟩
        · rw [set_out (by omega)]; exact a2 x hx
        · rw [set_out (by omega)]; exact a3
        · rw [set_out (by omega)]; exact a4
        · rw [set_out (by omega)]; exact a5 i hi
        · have := mix_s hole zer k.toNat
          rw [← this]
          exact set_self a6
theorem c_X2_init (d : Nat) (hd : 1 ≤ d) (h : List AC) (S : Nat) (hS : h.length = S + 1) (hi : h[S]? = some (ao 2 [vn, vn, vi 0])) (hc : clo h) : M1 zX2_init d 6 64 [vr S] h (fun v u => v = none ∧ SP h u S 12 12 0) := by
  refine M1.of okX2_init (Nat.le_of_ble_eq_true rfl) rfl ?_
  refine AW.go 1 (pc' := 1) rfl ?_
  refine AW.objI (pn := 4) rfl rfl obX2 ⟨by show 1 ≤ d; omega, by show _ ≤ 40 * d; simp; omega⟩ ?_
  refine AW.go 3 (pc' := 8) rfl ?_
  refine AW.mnaF (p2 := 12) (pn := 15) rfl rfl wMna rfl rfl flX2_11 rfl fkX2_11 rfl hi rfl trivial hc (And.intro (show S < h.length by omega) trivial) trivial (Nat.le_refl _) ⟨by show 0 + 5 ≤ 6; decide, by show 0 + 52 ≤ 64; decide⟩ ?_
  intro u ul uf ui un ur uc
  refine AW.go 2 (pc' := 18) rfl ?_
  refine AW.arrF (N := 12) (p2 := 20) (pn := 23) (t := 0) rfl rfl (Or.inl ⟨rfl, rfl⟩) (by decide) rfl rfl flX2_16 rfl fkX2_16 rfl ui rfl trivial uc (And.intro (show S < u.length by omega) trivial) trivial (by omega) ⟨by show 0 + 5 + 1 ≤ 6; decide, by show 0 + 52 + 12 ≤ 64; decide⟩ ?_
  intro w wl wf wi wn wc
  rw [ul, hS] at wi wn wl
  rw [hS] at un ur
  refine AW.go 2 (pc' := 25) rfl ?_
  refine AW.putS (pn := 28) rfl rfl flX2_20 wi rfl rfl (Or.inl rfl) ?_
  refine AW.go 2 (pc' := 30) rfl ?_
  refine AW.lw ?_ (l_X2_init d hd h S hS _ 0 w (by omega) (by omega) ?_ (Nat.lt_succ_self _))
  · exact And.intro rfl (And.intro rfl trivial)
  · refine ⟨by omega, fun x hx => ?_, ?_, ?_, fun i hi2 => ?_, ?_, wc⟩
    · rw [wf x (by omega) (by omega)]; exact uf x (by omega) (by omega)
    · rw [wi]; rfl
    · rw [wf (S + 1) (by omega) (by omega), un]
      have : (fun i => if i < 4 then some (S + 1 + 1 + i) else none) = rwS S := rfl
      rw [this]
    · rw [wf (S + 2 + i) (by omega) (by omega), show S + 2 + i = S + 1 + 1 + i by omega, ur i hi2, if_neg (Nat.not_lt_zero _)]
      rw [show (0 : Int).toNat = 0 from rfl, mix_0]
    · rw [show S + 6 = S + 1 + 5 by omega, wn, show (0 : Int).toNat = 0 from rfl, mix_0]
