/-! the start: what the tables say, the two makings, the first world -/
theorem known9 {s : State} {a : Array Value} (hts : ∀ w ∈ lw_tbl, w.before a s = true) : ∃ (D : va_G) (τ : Nat → ClassId), KK D τ s := by
  have hg : ∀ w ∈ gtb, w.before a s = true := fun w hw => hts w (List.mem_filter.mp hw).1
  obtain ⟨c0, i0, k0⟩ := u_known (C := RX0) (T := TX0) (N := 2) (n := 2) hg fc0 (hg (.instantiable RX0 2) (gtb_in 62 (by decide +kernel) (by decide +kernel)))
  obtain ⟨c1, i1, k1⟩ := u_known (C := RX1) (T := TX1) (N := 6) (n := 6) hg fc1 (hg (.instantiable RX1 6) (gtb_in 99 (by decide +kernel) (by decide +kernel)))
  obtain ⟨c2, i2, k2⟩ := u_known (C := RX2) (T := TX2) (N := 3) (n := 3) hg fc2 (hg (.instantiable RX2 3) (gtb_in 77 (by decide +kernel) (by decide +kernel)))
  obtain ⟨c3, i3, k3⟩ := u_known (C := RX3) (T := TX3) (N := 5) (n := 5) hg fc3 (hg (.instantiable RX3 5) (gtb_in 54 (by decide +kernel) (by decide +kernel)))
  obtain ⟨c4, i4, k4⟩ := u_known (C := RX4) (T := TX4) (N := 14) (n := 14) hg fc4 (hg (.instantiable RX4 14) (gtb_in 405 (by decide +kernel) (by decide +kernel)))
  have hS : (Cond.arrayOver (.object RX2)).before a s = true := hts _ (List.mem_of_getElem? (i := 97) (by decide +kernel))
  have hI : (Cond.arrayOver (.array .int)).before a s = true := hts _ (List.mem_of_getElem? (i := 83) (by decide +kernel))
  obtain ⟨tI, uI, vI, e1, e2, e3⟩ := Cond.arrayClass_spec (hg _ wArr.1)
  obtain ⟨tZ, uZ, vZ, f1, f2, f3⟩ := Cond.arrayClass_spec (hg _ wArr.2)
  obtain ⟨vS, tS, uS, g1, g2, g3, g4, g5⟩ := Cond.arrayOver_spec hS
  obtain ⟨vA, tA, uA, m1, m2, m3, m4, m5⟩ := arrayOverA_spec hI
  refine ⟨(fun k => if k = 0 then c0 else if k = 1 then c1 else if k = 2 then c2 else if k = 3 then c3 else c4, fun k => if k = 0 then i0 else if k = 1 then i1 else if k = 2 then i2 else if k = 3 then i3 else i4), fun k => if k = 0 then tI else if k = 1 then tZ else if k = 2 then tS else tA, ⟨?_, ?_⟩, ?_, va_AO.of hS, va_AOA.of hI⟩
  · intro k q hq
    match k, hq with
    | 0, hq => cases hq; exact k0
    | 1, hq => cases hq; exact k1
    | 2, hq => cases hq; exact k2
    | 3, hq => cases hq; exact k3
    | 4, hq => cases hq; exact k4
    | k + 5, hq => simp [classes] at hq
  · intro k q hq
    match k, hq with
    | 0, hq => cases hq; exact ⟨fun n z => ⟨(fun k h => by cases h), uI, e2, vI, e3⟩, e1⟩
    | 1, hq => cases hq; exact ⟨fun n z => ⟨(fun k h => by cases h), uZ, f2, vZ, f3⟩, f1⟩
    | 2, hq => cases hq; exact ⟨fun n z => ⟨(fun k h => by cases h), uS, g3, vS, g4⟩, uS, vS, g3, g4, g1, g5⟩
    | 3, hq => cases hq; exact ⟨fun n z => ⟨(fun k h => by cases h), uA, m3, vA, m4⟩, m5⟩
    | k + 4, hq => simp [tyl] at hq
  · intro w hw
    have h1 := hts w (List.mem_filter.mp hw).1
    have h2 := (List.mem_filter.mp hw).2
    cases w <;> first | (simp [isNst] at h2; done) | exact va_Nw.of rfl h1
theorem MI.clo9 {h u : List AC} (hc : clo h) (hl : h.length = 30) (a : MI h u) : clo u := by
  obtain ⟨ul, uf, u29, u30, u31, u32, u33, u34, u35, u36, u37, u38⟩ := a
  intro e he
  obtain ⟨i, hi⟩ := List.getElem?_of_mem he
  have hlt : i < 39 := by rw [← ul]; exact (List.getElem?_eq_some_iff.mp hi).1
  by_cases q : i < 29
  · rw [uf i q] at hi
    exact limC_mono (by omega) (clo_at hc hi)
  · rw [ul]
    rcases (show i = 29 ∨ i = 30 ∨ i = 31 ∨ i = 32 ∨ i = 33 ∨ i = 34 ∨ i = 35 ∨ i = 36 ∨ i = 37 ∨ i = 38 by omega) with rfl | rfl | rfl | rfl | rfl | rfl | rfl | rfl | rfl | rfl
    · rw [u29] at hi
      cases hi
      exact stl_ok (n := 39) (And.intro (show 30 < 39 by decide) (And.intro (show 31 < 39 by decide) (And.intro (show 32 < 39 by decide) (And.intro trivial (And.intro trivial (And.intro (show 33 < 39 by decide) (And.intro (show 34 < 39 by decide) (And.intro (show 35 < 39 by decide) (And.intro trivial (And.intro (show 36 < 39 by decide) (And.intro (show 37 < 39 by decide) (And.intro (show 38 < 39 by decide) (And.intro trivial (And.intro trivial trivial))))))))))))))
    · rw [u30] at hi; cases hi; exact trivial
    · rw [u31] at hi; cases hi; exact trivial
    · rw [u32] at hi; cases hi; exact trivial
    · rw [u33] at hi; cases hi; exact trivial
    · rw [u34] at hi; cases hi; exact trivial
    · rw [u35] at hi; cases hi; exact trivial
    · rw [u36] at hi; cases hi; exact trivial
    · rw [u37] at hi; cases hi; exact trivial
    · rw [u38] at hi; cases hi; exact trivial
abbrev mo0 : List AV := [vn, vn, vn, vi 0, vi 0, vn, vn, vn, vi 0, vn, vn, vn, vi 0, vi 0]
theorem inv0 {u w : List AC} (hu : CI u) (hw : MI (u ++ [ao 4 mo0]) w) : INVw w := by
  obtain ⟨ul, u0, u1, u2, uS, u10, uA, uB, u25, u26, u27, u28, -⟩ := hu
  obtain ⟨wl, wf, w29, w30, w31, w32, w33, w34, w35, w36, w37, w38⟩ := hw
  have hf : ∀ x, x < 29 → w[x]? = u[x]? := fun x hx => by rw [wf x hx, List.getElem?_append_left (by omega)]
  obtain ⟨S3, S4, S5, S9⟩ : St w 3 0 rows0 pat0 := uS.kept (fun j _ h2 => hf j (by omega))
  have tw : ∀ j, j < 48 → mix twl zer 48 j = (j : Int) % 12 := fun j hj => mix_in hj
  have hC : IC w (fun r => rows0 r.toNat) pat0 zer 0 (fun _ => 0) (fun _ => rows0) (fun _ => pat0) := by
    refine ⟨(hf 0 (by decide)).trans u0, (hf 1 (by decide)).trans u1, (hf 2 (by decide)).trans u2, ⟨0, S3⟩, S4, fun r r0 r1 => S5 r.toNat (by omega), S9, (hf 10 (by decide)).trans u10, fun k hk => ?_, ⟨0, 0, 0, 0, zer, zer, (hf 25 (by decide)).trans u25, (hf 26 (by decide)).trans u26, (hf 27 (by decide)).trans u27⟩, ⟨zer, (hf 28 (by decide)).trans u28⟩⟩
    rcases (show k = 0 ∨ k = 1 by omega) with rfl | rfl
    · exact uA.kept (fun j _ h2 => hf j (by omega))
    · exact uB.kept (fun j _ h2 => hf j (by omega))
  have hM : IM w (mix twl zer 48) (mix hole zer 12) zer 0 zer zer := ⟨⟨0, 0, 0, 0, w29⟩, w30, w31, w32, ⟨zer, w33⟩, ⟨zer, zer, zer, w34, w35, w36⟩, w37, w38⟩
  have hok : okV (mix twl zer 48) (mix hole zer 12) zer 0 := by
    refine ⟨fun j hj => ?_, fun r r0 r1 i j hi hj e => ?_, fun j hj => Or.inl (mix_in hj), fun i j hi hj e n => absurd (mix_in hi) n, fun j hj => ⟨(by decide : (0 : Int) ≤ 0), (by decide : (0 : Int) ≤ 126)⟩, by decide, by decide⟩
    · rw [tw j hj]
      omega
    · have e : mix twl zer 48 (12 * r.toNat + i) = mix twl zer 48 (12 * r.toNat + j) := e
      rw [tw _ (by omega), tw _ (by omega)] at e
      omega
  refine ⟨_, _, _, _, _, _, _, _, _, _, _, wl, hC, hM, hok, fun k hk => ⟨Or.inl rfl, rfl, fun w9 => absurd (show (0 : Int) = 1 from w9) (by decide)⟩, fun r r0 r1 j hj => ?_, fun j hj => rfl⟩
  show mix rise zer 12 j = mix twl zer 48 (12 * r.toNat + j)
  rw [mix_in hj, tw _ (by omega)]
  show (j : Int) = ((12 * r.toNat + j : Nat) : Int) % 12
  omega
theorem nil_clo : clo [] := fun e he => by cases he
set_option maxHeartbeats 4000000 in
theorem law_main {b0 L0 : Nat} {xs : Nat → Int32} {nm : String} (hL : L0 ≤ 2560) : LW b0 L0 xs (zK nm yl_h) room_1 600000 7302250 0 0 0 [(0, vr 1000)] [] [] QL := by
  refine LW.objN (p2 := 3) (pn := 7) (d := 12) (mc := 28) (ms := 339) (Q' := fun v u => v = none ∧ CI u) rfl rfl rfl rfl rfl noForms (stl_ok (And.intro trivial (And.intro trivial (And.intro trivial (And.intro trivial (And.intro trivial trivial)))))) mlL_9 ⟨rfl, rfl⟩ (c_X3_init 12 (by decide)) nil_clo (fun q hq => Or.inr (by rw [List.mem_singleton.mp hq])) (fun v hv => by cases hv) (by decide) (fun v u hq => ?_) (Nat.le_of_ble_eq_true rfl) ⟨Nat.le_of_ble_eq_true rfl, Nat.le_of_ble_eq_true rfl⟩ ⟨Nat.le_of_ble_eq_true rfl, Nat.le_of_ble_eq_true rfl⟩ (fun u hq => ?_) (fun a u hq => by cases hq.1)
  · obtain ⟨-, ul, -, -, -, -, -, -, -, -, -, -, -, uc⟩ := hq
    exact ⟨by rw [ul]; decide, by rw [ul]; decide, uc⟩
  · obtain ⟨-, hCI⟩ := hq
    have ul : u.length = 29 := hCI.1
    have uc : clo u := hCI.2.2.2.2.2.2.2.2.2.2.2.2
    refine LW.go 1 (pc' := 8) rfl ?_
    refine LW.lw (ls' := [(0, vr 1000), (1, vr 0)]) (And.intro rfl (And.intro rfl trivial)) ?_
    have ul1 : (u ++ [ao 4 mo0]).length = 30 := by rw [List.length_append, ul]; rfl
    have uc1 : clo (u ++ [ao 4 mo0]) := clo_push uc (stl_ok (And.intro trivial (And.intro trivial (And.intro trivial (And.intro trivial (And.intro trivial (And.intro trivial (And.intro trivial (And.intro trivial (And.intro trivial (And.intro trivial (And.intro trivial (And.intro trivial (And.intro trivial (And.intro trivial trivial)))))))))))))))
    have e29 : (u ++ [ao 4 mo0])[29]? = some (ao 4 mo0) := by
      rw [List.getElem?_append_right (by omega), ul]; rfl
    have hM : M1 zX4_init 12 9 313 [vr u.length] (u ++ [ao 4 mo0]) (fun v w => v = none ∧ MI (u ++ [ao 4 mo0]) w) := by
      rw [ul]
      exact c_X4_init 12 (by decide) _ ul1 e29 uc1
    refine LW.objN (p2 := 11) (pn := 15) rfl rfl rfl rfl rfl noModel (stl_ok (And.intro trivial (And.intro trivial (And.intro trivial (And.intro trivial (And.intro trivial (And.intro trivial (And.intro trivial (And.intro trivial (And.intro trivial (And.intro trivial (And.intro trivial (And.intro trivial (And.intro trivial (And.intro trivial trivial))))))))))))))) mlL_12 ⟨rfl, rfl⟩ hM uc (fun q hq => ?_) (fun v hv => by cases hv) (by omega) (fun v w hq => ?_) (Nat.le_of_ble_eq_true rfl) ⟨Nat.le_of_ble_eq_true rfl, Nat.le_of_ble_eq_true rfl⟩ ⟨Nat.le_of_ble_eq_true rfl, Nat.le_of_ble_eq_true rfl⟩ (fun w hq => ?_) (fun a w hq => by cases hq.1)
    · rcases List.mem_cons.mp hq with rfl | hq
      · exact Or.inr rfl
      · rw [List.mem_singleton.mp hq]
        exact Or.inl (show 0 < u.length by omega)
    · have wl : w.length = 39 := hq.2.1
      exact ⟨by omega, by omega, MI.clo9 uc1 ul1 hq.2⟩
    · have iw := inv0 hCI hq.2
      rw [ul]
      refine LW.go 3 (pc' := 18) rfl ?_
      refine LW.lw ?_ (law_loop hL (L0 + 6) 0 w (by decide) (by omega) (by omega) iw)
      exact (And.intro rfl (And.intro rfl (And.intro rfl (And.intro rfl trivial))))
