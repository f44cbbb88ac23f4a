theorem mt_c {m m' : Nat → Int} (e : ∀ j, j < 48 → m' j = m j) (h : mt m) : mt m' := fun j hj => by rw [e j hj]; exact h j hj
theorem inj4_c {m m' : Nat → Int} (e : ∀ j, j < 48 → m' j = m j) (h : inj4 m) : inj4 m' := fun r r0 r1 => inj_c (fun j hj => e (12 * r.toNat + j) (by omega)) (h r r0 r1)
theorem up_at9 {α : Type} {f : Nat → α} {k : Nat} {x : α} : up f k x k = x := if_pos rfl
theorem up_no9 {α : Type} {f : Nat → α} {k j : Nat} {x : α} (h : j ≠ k) : up f k x j = f j := if_neg h
theorem ks_in {q f : Nat → Int} {a n j : Nat} (h1 : a ≤ j) (h2 : j < a + n) : kset q a n f j = f (j - a) := if_pos ⟨h1, h2⟩
theorem ks_out {q f : Nat → Int} {a n j : Nat} (h : ¬ (a ≤ j ∧ j < a + n)) : kset q a n f j = q j := if_neg h
theorem rlk_image {m pat sg : Nat → Int} {cnt : Int} {kf : Nat → Int} {fI : Nat → Nat → Nat → Int} {pI : Nat → Nat → Int} {q ik : Nat → Int} (ok : okV m pat sg cnt) (rl : RLK kf fI pI q ik) {k : Nat} (hk : k < 2) : RLK (up kf k 1) (up fI k (fun i => cpy12 (rwm m (i : Int)) (fI k i))) (up pI k (cpy12 pat (pI k))) (kset (kset q (60 * k) 48 m) (60 * k + 48) 12 pat) (up ik k 1) := by
  obtain ⟨hm, hi, hp, hj, -, -, -⟩ := ok
  intro k' hk'
  obtain ⟨r1, r2, r3⟩ := rl k' hk'
  by_cases e : k' = k
  · subst e
    refine ⟨Or.inr up_at9, up_at9.trans up_at9.symm, fun _ => ?_⟩
    have e48 : ∀ j, j < 48 → kset (kset q (60 * k') 48 m) (60 * k' + 48) 12 pat (60 * k' + j) = m j := fun j hj9 => by
      rw [ks_out (by omega), ks_in (by omega) (by omega), Nat.add_sub_cancel_left]
    have e12 : ∀ j, j < 12 → kset (kset q (60 * k') 48 m) (60 * k' + 48) 12 pat (60 * k' + (48 + j)) = pat j := fun j hj9 => by
      rw [ks_in (by omega) (by omega), ← Nat.add_assoc, Nat.add_sub_cancel_left]
    rw [up_at9, up_at9]
    refine ⟨fun i j hi9 hj9 => ?_, fun j hj9 => ?_, mt_c e48 hm, inj4_c e48 hi, pn_c e12 hp, pj_c e12 hj⟩
    · show cpy12 (rwm m (i : Int)) (fI k' i) j = _
      rw [cpy_at hj9, e48 _ (by omega)]
      rfl
    · rw [cpy_at hj9, e12 j hj9]
  · have eq : ∀ x, x < 60 → kset (kset q (60 * k) 48 m) (60 * k + 48) 12 pat (60 * k' + x) = q (60 * k' + x) := fun x hx => by
      rw [ks_out (by omega), ks_out (by omega)]
    refine ⟨by rw [up_no9 e]; exact r1, by rw [up_no9 e, up_no9 e]; exact r2, fun w => ?_⟩
    rw [up_no9 e] at w
    rw [up_no9 e, up_no9 e]
    obtain ⟨s1, s2, s3, s4, s5, s6⟩ := r3 w
    exact ⟨fun i j hi9 hj9 => by rw [eq _ (by omega)]; exact s1 i j hi9 hj9, fun j hj9 => by rw [eq _ (by omega)]; exact s2 j hj9, mt_c (fun j hj9 => eq j (by omega)) s3, inj4_c (fun j hj9 => eq j (by omega)) s4, pn_c (fun j hj9 => eq (48 + j) (by omega)) s5, pj_c (fun j hj9 => eq (48 + j) (by omega)) s6⟩
set_option maxHeartbeats 1000000 in
theorem pr_image {h : List AC} {m pat sg : Nat → Int} {cnt : Int} {kf : Nat → Int} {fI : Nat → Nat → Nat → Int} {pI : Nat → Nat → Int} {q ik : Nat → Int} (I : INV h m pat sg cnt kf fI pI q ik) (a : Int) (ra : -2147483648 ≤ a ∧ a < 2147483648) : PC zX3_image zX4_image [vi a] h := by
  obtain ⟨hl, hC, iM, hok, rl⟩ := id I
  obtain ⟨g0, g1, g2, ⟨kp, g3⟩, g4, hR, g9, g10, iS, ⟨M7, w7, b7, o7, K7, T7, g25, g26, g27⟩, ⟨sc, g28⟩⟩ := id hC
  obtain ⟨hm, hi, hp, hj, hs, c0, c1⟩ := id hok
  have cc := c_X3_image 12 (by decide) h g0 kp g3 g4 m hm hR pat g9 g10 kf fI pI iS a ra
  by_cases cd : 0 ≤ a ∧ a < 2
  · have k2 : a.toNat < 2 := by omega
    have e60 : (60 * a).toNat = 60 * a.toNat := by omega
    refine PC.of (x := 1) (R' := rwm m) (P' := pat) (sg' := sg) (cnt' := cnt) (kf' := up kf a.toNat 1) (fI' := up fI a.toNat (fun i => cpy12 (rwm m (i : Int)) (fI a.toNat i))) (pI' := up pI a.toNat (cpy12 pat (pI a.toNat))) (m' := m) (pat' := pat) (q' := kset (kset q (60 * a.toNat) 48 m) (60 * a.toNat + 48) 12 pat) (ik' := up ik a.toNat 1) hl iM (M0.post cc (fun v u hq => ?_)) (fun u ul uM => ?_) hok (rlk_image hok rl k2) (fun _ _ _ _ _ => rfl) (fun _ _ => rfl)
    · rw [if_pos cd] at hq
      obtain ⟨rfl, ul, uf, uS⟩ := hq
      refine ⟨rfl, ul, fun j hj9 => uf j (by omega), ?_, ?_, ?_, ⟨kp, ?_⟩, ?_, fun r9 r0 r1 => ?_, ?_, ?_, fun k' hk' => ?_, ⟨M7, w7, b7, o7, K7, T7, ?_, ?_, ?_⟩, ⟨sc, ?_⟩⟩
      case refine_9 =>
        by_cases e : k' = a.toNat
        · subst e
          rw [up_at9, up_at9, up_at9]
          exact uS
        · rw [up_no9 e, up_no9 e, up_no9 e]
          exact (iS k' hk').kept (fun j h1 h2 => uf j (by omega))
      all_goals (rw [uf _ (by omega)]; first | assumption | exact hR r9 r0 r1)
    · obtain ⟨⟨rf, gm, ka, w9, e29⟩, e30, e31, e32, ⟨md, e33⟩, ⟨GF, GS, C, e34, e35, e36⟩, e37, e38⟩ := id uM
      refine M0.post (c_X4_image 12 (by decide) u _ _ _ _ _ e29 m e30 pat e31 q e37 ik e38 a ra) (fun v u9 hq => ?_)
      rw [if_pos cd, e60] at hq
      obtain ⟨rfl, wl, wf, w29, w37, w38⟩ := hq
      refine ⟨rfl, wl, fun j hj9 => wf j (by omega) (by omega) (by omega), ⟨_, _, _, _, w29⟩, ?_, ?_, ?_, ⟨md, ?_⟩, ⟨GF, GS, C, ?_, ?_, ?_⟩, w37, w38⟩ <;> (rw [wf _ (by decide) (by decide) (by decide)]; assumption)
  · refine PC.qm (x := -2) I (M0.post cc (fun v u hq => ?_)) (fun u ul uM => ?_)
    · rw [if_neg cd] at hq
      obtain ⟨rfl, rfl⟩ := hq
      exact ⟨rfl, rfl, fun _ _ => rfl, hC⟩
    · obtain ⟨⟨rf, gm, ka, w9, e29⟩, e30, e31, e32, ⟨md, e33⟩, ⟨GF, GS, C, e34, e35, e36⟩, e37, e38⟩ := id uM
      refine M0.post (c_X4_image 12 (by decide) u _ _ _ _ _ e29 m e30 pat e31 q e37 ik e38 a ra) (fun v u9 hq => ?_)
      rw [if_neg cd] at hq
      obtain ⟨rfl, rfl⟩ := hq
      exact ⟨rfl, rfl, fun _ _ => rfl, uM⟩
set_option maxHeartbeats 1000000 in
theorem pr_restore {h : List AC} {m pat sg : Nat → Int} {cnt : Int} {kf : Nat → Int} {fI : Nat → Nat → Nat → Int} {pI : Nat → Nat → Int} {q ik : Nat → Int} (I : INV h m pat sg cnt kf fI pI q ik) (a : Int) (ra : -2147483648 ≤ a ∧ a < 2147483648) : PC zX3_restore zX4_restore [vi a] h := by
  obtain ⟨hl, hC, iM, hok, rl⟩ := id I
  obtain ⟨g0, g1, g2, ⟨kp, g3⟩, g4, hR, g9, g10, iS, ⟨M7, w7, b7, o7, K7, T7, g25, g26, g27⟩, ⟨sc, g28⟩⟩ := id hC
  obtain ⟨hm, hi, hp, hj, hs, c0, c1⟩ := id hok
  have cc := c_X3_restore 12 (by decide) h g0 kp g3 g4 m hm hR pat g9 g10 kf fI pI iS (fun k hk => (rl k hk).1) a ra
  have hik : ∀ k : Nat, k < 2 → ik k = 0 ∨ ik k = 1 := fun k hk => by rw [(rl k hk).2.1]; exact (rl k hk).1
  by_cases cd : 0 ≤ a ∧ a < 2
  · have k2 : a.toNat < 2 := by omega
    have e60 : (60 * a).toNat = 60 * a.toNat := by omega
    obtain ⟨r1, r2, r3⟩ := rl _ k2
    by_cases kz : kf a.toNat = 0
    · have kz' : ik a.toNat = 0 := r2.trans kz
      refine PC.qm (x := -3) I (M0.post cc (fun v u hq => ?_)) (fun u ul uM => ?_)
      · rw [if_pos cd, if_pos kz] at hq
        obtain ⟨rfl, rfl⟩ := hq
        exact ⟨rfl, rfl, fun _ _ => rfl, hC⟩
      · obtain ⟨⟨rf, gm, ka, w9, e29⟩, e30, e31, e32, ⟨md, e33⟩, ⟨GF, GS, C, e34, e35, e36⟩, e37, e38⟩ := id uM
        refine M0.post (c_X4_restore 12 (by decide) u _ _ _ _ _ e29 m e30 pat e31 q e37 ik e38 hik a ra) (fun v u9 hq => ?_)
        rw [if_pos cd, if_pos kz'] at hq
        obtain ⟨rfl, rfl⟩ := hq
        exact ⟨rfl, rfl, fun _ _ => rfl, uM⟩
    · have kz' : ¬ ik a.toNat = 0 := fun w => kz (r2.symm.trans w)
      have k1 : kf a.toNat = 1 := r1.resolve_left kz
      obtain ⟨s1, s2, s3, s4, s5, s6⟩ := r3 k1
      have e12 : ∀ j, j < 12 → mix (fun j => q (60 * a.toNat + 48 + j)) pat 12 j = q (60 * a.toNat + (48 + j)) := fun j hj9 => by
        rw [mix_in hj9, Nat.add_assoc]
      have e48 : ∀ j, j < 48 → mix (fun j => q (60 * a.toNat + j)) m 48 j = q (60 * a.toNat + j) := fun j hj9 => mix_in hj9
      refine PC.of (x := 1) (R' := fun r9 => cpy12 (fI a.toNat r9.toNat) (rwm m ((r9.toNat : Nat) : Int))) (P' := cpy12 (pI a.toNat) pat) (sg' := sg) (cnt' := cnt) (kf' := kf) (fI' := fI) (pI' := pI) (m' := mix (fun j => q (60 * a.toNat + j)) m 48) (pat' := mix (fun j => q (60 * a.toNat + 48 + j)) pat 12) (q' := q) (ik' := ik) hl iM (M0.post cc (fun v u hq => ?_)) (fun u ul uM => ?_) ⟨mt_c e48 s3, inj4_c e48 s4, pn_c e12 s5, pj_c e12 s6, hs, c0, c1⟩ rl (fun r9 r0 r1 j hj9 => ?_) (fun j hj9 => ?_)
      · rw [if_pos cd, if_neg kz] at hq
        obtain ⟨rfl, ul, uf, S3, S4, S5, S9⟩ := hq
        refine ⟨rfl, ul, fun j hj9 => uf j (by omega), ?_, ?_, ?_, ⟨kp, S3⟩, S4, fun r9 r0 r1 => S5 r9.toNat (by omega), S9, ?_, fun k' hk' => (iS k' hk').kept (fun j h1 h2 => uf j (by omega)), ⟨M7, w7, b7, o7, K7, T7, ?_, ?_, ?_⟩, ⟨sc, ?_⟩⟩ <;> (rw [uf _ (by omega)]; assumption)
      · obtain ⟨⟨rf, gm, ka, w9, e29⟩, e30, e31, e32, ⟨md, e33⟩, ⟨GF, GS, C, e34, e35, e36⟩, e37, e38⟩ := id uM
        refine M0.post (c_X4_restore 12 (by decide) u _ _ _ _ _ e29 m e30 pat e31 q e37 ik e38 hik a ra) (fun v u9 hq => ?_)
        rw [if_pos cd, if_neg kz', e60] at hq
        obtain ⟨rfl, wl, wf, w29, w30, w31⟩ := hq
        refine ⟨rfl, wl, fun j hj9 => wf j (by omega) (by omega) (by omega), ⟨_, _, _, _, w29⟩, w30, w31, ?_, ⟨md, ?_⟩, ⟨GF, GS, C, ?_, ?_, ?_⟩, ?_, ?_⟩ <;> (rw [wf _ (by decide) (by decide) (by decide)]; assumption)
      · show cpy12 (fI a.toNat r9.toNat) (rwm m ((r9.toNat : Nat) : Int)) j = mix (fun j => q (60 * a.toNat + j)) m 48 (12 * r9.toNat + j)
        rw [cpy_at hj9, e48 _ (by omega)]
        exact s1 _ _ (by omega) hj9
      · rw [cpy_at hj9, e12 j hj9]
        exact s2 j hj9
  · refine PC.qm (x := -2) I (M0.post cc (fun v u hq => ?_)) (fun u ul uM => ?_)
    · rw [if_neg cd] at hq
      obtain ⟨rfl, rfl⟩ := hq
      exact ⟨rfl, rfl, fun _ _ => rfl, hC⟩
    · obtain ⟨⟨rf, gm, ka, w9, e29⟩, e30, e31, e32, ⟨md, e33⟩, ⟨GF, GS, C, e34, e35, e36⟩, e37, e38⟩ := id uM
      refine M0.post (c_X4_restore 12 (by decide) u _ _ _ _ _ e29 m e30 pat e31 q e37 ik e38 hik a ra) (fun v u9 hq => ?_)
      rw [if_neg cd] at hq
      obtain ⟨rfl, rfl⟩ := hq
      exact ⟨rfl, rfl, fun _ _ => rfl, uM⟩
