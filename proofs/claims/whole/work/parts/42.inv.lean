/-! what holds between the calls -/
theorem inj_c {f g : Nat → Int} (h : ∀ j, j < 12 → g j = f j) (a : inj12 f) : inj12 g := fun i j hi hj e => a i j hi hj (by rw [← h i hi, ← h j hj]; exact e)
theorem pn_c {f g : Nat → Int} (h : ∀ j, j < 12 → g j = f j) (a : pn f) : pn g := fun j hj => by rw [h j hj]; exact a j hj
theorem pj_c {f g : Nat → Int} (h : ∀ j, j < 12 → g j = f j) (a : pj f) : pj g := fun i j hi hj e n => a i j hi hj (by rw [← h i hi, ← h j hj]; exact e) (by rw [← h i hi]; exact n)
def inj4 (m : Nat → Int) : Prop := ∀ r : Int, 0 ≤ r → r < 4 → inj12 (rwm m r)
def okV (m pat sg : Nat → Int) (cnt : Int) : Prop := mt m ∧ inj4 m ∧ pn pat ∧ pj pat ∧ sn sg ∧ 0 ≤ cnt ∧ cnt ≤ 20
def rel1 (k : Nat) (q : Nat → Int) (fk : Nat → Nat → Int) (pk : Nat → Int) : Prop := (∀ i j, i < 4 → j < 12 → fk i j = q (60 * k + (12 * i + j))) ∧ (∀ j, j < 12 → pk j = q (60 * k + (48 + j))) ∧ mt (fun j => q (60 * k + j)) ∧ inj4 (fun j => q (60 * k + j)) ∧ pn (fun j => q (60 * k + (48 + j))) ∧ pj (fun j => q (60 * k + (48 + j)))
def RLK (kf : Nat → Int) (fI : Nat → Nat → Nat → Int) (pI : Nat → Nat → Int) (q ik : Nat → Int) : Prop := ∀ k : Nat, k < 2 → (kf k = 0 ∨ kf k = 1) ∧ ik k = kf k ∧ (kf k = 1 → rel1 k q (fI k) (pI k))
def IC (h : List AC) (R : Int → Nat → Int) (P sg : Nat → Int) (cnt : Int) (kf : Nat → Int) (fI : Nat → Nat → Nat → Int) (pI : Nat → Nat → Int) : Prop :=
  h[0]? = some (ao 3 [vr 1, vr 3, vr 10, vr 25, vr 28]) ∧ h[1]? = some (ao 0 [vr 2, vi cnt]) ∧ h[2]? = some (ai 0 20 sg) ∧ (∃ kp : Int, h[3]? = some (ao 2 [vr 4, vr 9, vi kp])) ∧ h[4]? = some (aq 3 4 rw4) ∧ (∀ r : Int, 0 ≤ r → r < 4 → h[5 + r.toNat]? = some (ai 0 12 (R r))) ∧ h[9]? = some (ai 0 12 P) ∧ h[10]? = some (aq 2 2 imS) ∧ (∀ k : Nat, k < 2 → St h (11 + 7 * k) (kf k) (fI k) (pI k)) ∧ (∃ (M w b o : Int) (K T : Nat → Int), h[25]? = some (ao 1 [vr 26, vr 27, vi M, vi w, vi b, vi o]) ∧ h[26]? = some (ai 0 48 K) ∧ h[27]? = some (ai 0 48 T)) ∧ (∃ sc : Nat → Int, h[28]? = some (ai 0 12 sc))
def IM (h : List AC) (m pat sg : Nat → Int) (cnt : Int) (q ik : Nat → Int) : Prop :=
  (∃ rf gm ka w9 : Int, h[29]? = some (ao 4 (mo cnt rf gm ka w9))) ∧ h[30]? = some (ai 0 48 m) ∧ h[31]? = some (ai 0 12 pat) ∧ h[32]? = some (ai 0 20 sg) ∧ (∃ md : Nat → Int, h[33]? = some (ai 0 12 md)) ∧ (∃ GF GS C : Nat → Int, h[34]? = some (ai 0 48 GF) ∧ h[35]? = some (ai 0 48 GS) ∧ h[36]? = some (ai 0 3 C)) ∧ h[37]? = some (ai 0 120 q) ∧ h[38]? = some (ai 1 2 ik)
def INV (h : List AC) (m pat sg : Nat → Int) (cnt : Int) (kf : Nat → Int) (fI : Nat → Nat → Nat → Int) (pI : Nat → Nat → Int) (q ik : Nat → Int) : Prop := h.length = 39 ∧ IC h (rwm m) pat sg cnt kf fI pI ∧ IM h m pat sg cnt q ik ∧ okV m pat sg cnt ∧ RLK kf fI pI q ik
def INVw (h : List AC) : Prop := ∃ (R : Int → Nat → Int) (P m pat sg : Nat → Int) (cnt : Int) (kf : Nat → Int) (fI : Nat → Nat → Nat → Int) (pI : Nat → Nat → Int) (q ik : Nat → Int), h.length = 39 ∧ IC h R P sg cnt kf fI pI ∧ IM h m pat sg cnt q ik ∧ okV m pat sg cnt ∧ RLK kf fI pI q ik ∧ (∀ r : Int, 0 ≤ r → r < 4 → ∀ j, j < 12 → R r j = rwm m r j) ∧ (∀ j, j < 12 → P j = pat j)
theorem IC.frame {h u : List AC} {R : Int → Nat → Int} {P sg : Nat → Int} {cnt : Int} {kf : Nat → Int} {fI : Nat → Nat → Nat → Int} {pI : Nat → Nat → Int} (I : IC h R P sg cnt kf fI pI) (e : ∀ j, j < 29 → u[j]? = h[j]?) : IC u R P sg cnt kf fI pI := by
  obtain ⟨i0, i1, i2, ⟨kp, i3⟩, i4, i5, i9, i10, iS, ⟨M, w, b, o, K, T, i25, i26, i27⟩, ⟨sc, i28⟩⟩ := I
  refine ⟨?_, ?_, ?_, ⟨kp, ?_⟩, ?_, fun r r0 r1 => ?_, ?_, ?_, fun k hk => ?_, ⟨M, w, b, o, K, T, ?_, ?_, ?_⟩, ⟨sc, ?_⟩⟩
  case refine_9 => exact (iS k hk).kept (fun j h1 h2 => e j (by omega))
  all_goals (rw [e _ (by omega)]; first | assumption | exact i5 r r0 r1)
theorem IM.frame {h u : List AC} {m pat sg : Nat → Int} {cnt : Int} {q ik : Nat → Int} (I : IM h m pat sg cnt q ik) (e : ∀ j, 29 ≤ j → u[j]? = h[j]?) : IM u m pat sg cnt q ik := by
  obtain ⟨⟨rf, gm, ka, w9, i29⟩, i30, i31, i32, ⟨md, i33⟩, ⟨GF, GS, C, i34, i35, i36⟩, i37, i38⟩ := I
  refine ⟨⟨rf, gm, ka, w9, ?_⟩, ?_, ?_, ?_, ⟨md, ?_⟩, ⟨GF, GS, C, ?_, ?_, ?_⟩, ?_, ?_⟩ <;> (rw [e _ (by decide)]; assumption)
/-- canonical rows -/
theorem sim_rf (h : List AC) : sim h h := ⟨rfl, fun i e e' h1 h2 => Or.inl (Option.some.inj (h1.symm.trans h2))⟩
theorem ceq_tr {a b c : AC} (h1 : ceq a b) (h2 : ceq b c) : ceq a c := by
  rcases h1 with rfl | ⟨t, n, f, g, e1, e2, e3⟩
  · exact h2
  · rcases h2 with rfl | ⟨t', n', f', g', e4, e5, e6⟩
    · exact Or.inr ⟨t, n, f, g, e1, e2, e3⟩
    · rw [e2] at e4
      cases e4
      exact Or.inr ⟨t, n, f, g', e1, e5, fun j hj => (e3 j hj).trans (e6 j hj)⟩
theorem sim_set {h h' : List AC} (a : sim h h') {i t n : Nat} {f g : Nat → Int} (hi : h'[i]? = some (ai t n f)) (hg : ∀ j, j < n → f j = g j) : sim h (h'.set i (ai t n g)) := by
  refine ⟨by rw [List.length_set]; exact a.1, fun k e e' h1 h2 => ?_⟩
  by_cases q : i = k
  · subst q
    rw [set_self hi] at h2
    cases h2
    exact ceq_tr (a.2 i e _ h1 hi) (Or.inr ⟨t, n, f, g, rfl, rfl, hg⟩)
  · rw [set_out q] at h2
    exact a.2 k e e' h1 h2
theorem INVw.canon {h : List AC} (I : INVw h) : ∃ (h' : List AC) (m pat sg : Nat → Int) (cnt : Int) (kf : Nat → Int) (fI : Nat → Nat → Nat → Int) (pI : Nat → Nat → Int) (q ik : Nat → Int), sim h h' ∧ INV h' m pat sg cnt kf fI pI q ik := by
  obtain ⟨R, P, m, pat, sg, cnt, kf, fI, pI, q, ik, hl, hC, hM, hok, hrl, hR, hP⟩ := I
  obtain ⟨i0, i1, i2, ⟨kp, i3⟩, i4, i5, i9, i10, iS, ⟨M, w, b, o, K, T, i25, i26, i27⟩, ⟨sc, i28⟩⟩ := id hC
  have a0 := i5 0 (by decide) (by decide)
  have a1 := i5 1 (by decide) (by decide)
  have a2 := i5 2 (by decide) (by decide)
  have a3 := i5 3 (by decide) (by decide)
  have g0 : sim h (h.set 5 (ai 0 12 (rwm m 0))) := sim_set (sim_rf h) a0 (hR 0 (by decide) (by decide))
  have g1 : sim h ((h.set 5 (ai 0 12 (rwm m 0))).set 6 (ai 0 12 (rwm m 1))) := sim_set g0 (by rw [set_out (by decide)]; exact a1) (hR 1 (by decide) (by decide))
  have g2 : sim h (((h.set 5 (ai 0 12 (rwm m 0))).set 6 (ai 0 12 (rwm m 1))).set 7 (ai 0 12 (rwm m 2))) := sim_set g1 (by rw [set_out (by decide), set_out (by decide)]; exact a2) (hR 2 (by decide) (by decide))
  have g3 : sim h ((((h.set 5 (ai 0 12 (rwm m 0))).set 6 (ai 0 12 (rwm m 1))).set 7 (ai 0 12 (rwm m 2))).set 8 (ai 0 12 (rwm m 3))) := sim_set g2 (by rw [set_out (by decide), set_out (by decide), set_out (by decide)]; exact a3) (hR 3 (by decide) (by decide))
  have g4 : sim h (((((h.set 5 (ai 0 12 (rwm m 0))).set 6 (ai 0 12 (rwm m 1))).set 7 (ai 0 12 (rwm m 2))).set 8 (ai 0 12 (rwm m 3))).set 9 (ai 0 12 pat)) := sim_set g3 (by rw [set_out (by decide), set_out (by decide), set_out (by decide), set_out (by decide)]; exact i9) hP
  have hout : ∀ j, (j < 5 ∨ 9 < j) → (((((h.set 5 (ai 0 12 (rwm m 0))).set 6 (ai 0 12 (rwm m 1))).set 7 (ai 0 12 (rwm m 2))).set 8 (ai 0 12 (rwm m 3))).set 9 (ai 0 12 pat))[j]? = h[j]? := fun j hj => by
    rw [set_out (by omega), set_out (by omega), set_out (by omega), set_out (by omega), set_out (by omega)]
  have b9 : (((((h.set 5 (ai 0 12 (rwm m 0))).set 6 (ai 0 12 (rwm m 1))).set 7 (ai 0 12 (rwm m 2))).set 8 (ai 0 12 (rwm m 3))).set 9 (ai 0 12 pat))[9]? = some (ai 0 12 pat) := by
    rw [List.getElem?_set_self (by rw [List.length_set, List.length_set, List.length_set, List.length_set]; omega)]
  have b5 : ∀ r : Int, 0 ≤ r → r < 4 → (((((h.set 5 (ai 0 12 (rwm m 0))).set 6 (ai 0 12 (rwm m 1))).set 7 (ai 0 12 (rwm m 2))).set 8 (ai 0 12 (rwm m 3))).set 9 (ai 0 12 pat))[5 + r.toNat]? = some (ai 0 12 (rwm m r)) := by
    intro r r0 r1
    rcases (show r = 0 ∨ r = 1 ∨ r = 2 ∨ r = 3 by omega) with rfl | rfl | rfl | rfl
    · rw [show 5 + (0 : Int).toNat = 5 from rfl, set_out (by decide), set_out (by decide), set_out (by decide), set_out (by decide), List.getElem?_set_self (by omega)]
    · rw [show 5 + (1 : Int).toNat = 6 from rfl, set_out (by decide), set_out (by decide), set_out (by decide), List.getElem?_set_self (by rw [List.length_set]; omega)]
    · rw [show 5 + (2 : Int).toNat = 7 from rfl, set_out (by decide), set_out (by decide), List.getElem?_set_self (by rw [List.length_set, List.length_set]; omega)]
    · rw [show 5 + (3 : Int).toNat = 8 from rfl, set_out (by decide), List.getElem?_set_self (by rw [List.length_set, List.length_set, List.length_set]; omega)]
  refine ⟨_, m, pat, sg, cnt, kf, fI, pI, q, ik, g4, g4.1.trans hl, ?_, hM.frame (fun j hj => hout j (by omega)), hok, hrl⟩
  refine ⟨?_, ?_, ?_, ⟨kp, ?_⟩, ?_, b5, b9, ?_, fun k hk => (iS k hk).kept (fun j h1 h2 => hout j (by omega)), ⟨M, w, b, o, K, T, ?_, ?_, ?_⟩, ⟨sc, ?_⟩⟩ <;> (rw [hout _ (by decide)]; assumption)
/-! plain facts -/
theorem cpy_at {g f : Nat → Int} {j : Nat} (h : j < 12) : cpy12 g f j = g j := (pk_cpy_in (Nat.zero_le _) (by omega)).trans (by rw [Nat.zero_add, Nat.sub_zero])
theorem ft_inj {f : Nat → Int} (hf : tn f) (hi : inj12 f) {F : Int} (rF : 0 ≤ F ∧ F < 48) : inj12 (fun j => ft f 12 F (j : Int)) := by
  intro i j h1 h2 e
  have e : mv F (f (px F 12 (i : Int)).toNat) = mv F (f (px F 12 (j : Int)).toNat) := e
  have l1 : (px F 12 (i : Int)).toNat < 12 := by unfold px; split <;> omega
  have l2 : (px F 12 (j : Int)).toNat < 12 := by unfold px; split <;> omega
  have e2 := hi _ _ l1 l2 (mv_inj (hf _ l1) (hf _ l2) e)
  unfold px at e2
  split at e2 <;> omega
theorem rft_ok (s : Int → Int) (cnt w : Int) : ∀ (n : Nat) (k : Int) (u : Nat), 0 ≤ k → k + (n : Int) = 12 → rft s cnt w n k u = -6 → cnt ≤ 12 ∧ ∀ j : Int, k ≤ j → j < 12 → (w = 1 ∧ s j = 63) ∨ (¬ tof (s j) = -6 ∧ ¬ u.testBit (tof (s j)).toNat = true ∧ ∀ i : Int, k ≤ i → i < j → ¬ (w = 1 ∧ s i = 63) → ¬ tof (s i) = tof (s j))
  | 0, k, u, h0, h1, h => by
    unfold rft at h
    split at h
    · omega
    · exact ⟨by omega, fun j j1 j2 => by omega⟩
  | n + 1, k, u, h0, h1, h => by
    unfold rft at h
    split at h
    · next q =>
      obtain ⟨a, b⟩ := rft_ok s cnt w n (k + 1) u (by omega) (by omega) h
      refine ⟨a, fun j j1 j2 => ?_⟩
      by_cases e : j = k
      · subst e; exact Or.inl q
      · rcases b j (by omega) j2 with c | ⟨c1, c2, c3⟩
        · exact Or.inl c
        · refine Or.inr ⟨c1, c2, fun i i1 i2 i3 => ?_⟩
          by_cases e2 : i = k
          · subst e2; exact absurd q i3
          · exact c3 i (by omega) i2 i3
    · next q =>
      split at h
      · omega
      · next q2 =>
        obtain ⟨a, b⟩ := rft_ok s cnt w n (k + 1) _ (by omega) (by omega) h
        have q3 : ¬ tof (s k) = -6 := fun e => q2 (Or.inl e)
        have q4 : ¬ u.testBit (tof (s k)).toNat = true := fun e => q2 (Or.inr e)
        refine ⟨a, fun j j1 j2 => ?_⟩
        by_cases e : j = k
        · subst e; exact Or.inr ⟨q3, q4, fun i i1 i2 => by omega⟩
        · rcases b j (by omega) j2 with c | ⟨c1, c2, c3⟩
          · exact Or.inl c
          · rw [bit_set, Bool.or_eq_true, decide_eq_true_eq] at c2
            refine Or.inr ⟨c1, fun w9 => c2 (Or.inl w9), fun i i1 i2 i3 => ?_⟩
            by_cases e2 : i = k
            · subst e2
              intro e3
              exact c2 (Or.inr (by rw [e3]))
            · exact c3 i (by omega) i2 i3
theorem rft_12 {sg : Nat → Int} {cnt w : Int} (h : rft (sga sg cnt) cnt w 12 0 0 = -6) : cnt = 12 := by
  obtain ⟨a, b⟩ := rft_ok _ cnt w 12 0 0 (by omega) (by decide) h
  rcases (show cnt = 12 ∨ cnt < 12 by omega) with q | q
  · exact q
  · exfalso
    have e : sga sg cnt 11 = -6 := by unfold sga; rw [if_neg (by omega)]
    rcases b 11 (by decide) (by decide) with c | ⟨c1, -⟩
    · rw [e] at c; omega
    · rw [e] at c1; exact c1 (by decide)
theorem sga_12 {sg : Nat → Int} {j : Nat} (h : j < 12) : sga sg 12 (j : Int) = sg j := by
  unfold sga; rw [if_pos (by omega), Int.toNat_natCast]
theorem rft_row {sg : Nat → Int} {cnt : Int} (h : rft (sga sg cnt) cnt 0 12 0 0 = -6) : tn (fun j => tof (sg j)) ∧ inj12 (fun j => tof (sg j)) := by
  have e := rft_12 h
  subst e
  obtain ⟨-, b⟩ := rft_ok _ 12 0 12 0 0 (by omega) (by decide) h
  have key : ∀ j : Nat, j < 12 → ¬ tof (sg j) = -6 ∧ ∀ i : Nat, i < j → ¬ tof (sg i) = tof (sg j) := by
    intro j hj
    rcases b (j : Int) (by omega) (by omega) with c | ⟨c1, -, c3⟩
    · omega
    · rw [sga_12 hj] at c1 c3
      refine ⟨c1, fun i hi => ?_⟩
      have := c3 (i : Int) (by omega) (by omega) (by omega)
      rw [sga_12 (by omega)] at this
      exact this
  refine ⟨fun j hj => ?_, fun i j hi hj e => ?_⟩
  · rcases tof_b (sg j) with c | c
    · exact absurd c (key j hj).1
    · exact c
  · rcases Nat.lt_trichotomy i j with c | c | c
    · exact absurd e ((key j hj).2 i c)
    · exact c
    · exact absurd e.symm ((key i hi).2 j c)
theorem rft_pat {sg : Nat → Int} {cnt : Int} (h : rft (sga sg cnt) cnt 1 12 0 0 = -6) : pn (fun j => tof (sg j)) ∧ pj (fun j => tof (sg j)) := by
  have e := rft_12 h
  subst e
  obtain ⟨-, b⟩ := rft_ok _ 12 1 12 0 0 (by omega) (by decide) h
  have t63 : tof 63 = -6 := by decide
  have key : ∀ j : Nat, j < 12 → tof (sg j) = -6 ∨ ∀ i : Nat, i < j → ¬ tof (sg i) = tof (sg j) := by
    intro j hj
    rcases b (j : Int) (by omega) (by omega) with c | ⟨c1, -, c3⟩
    · left
      rw [sga_12 hj] at c
      rw [c.2]; exact t63
    · right
      rw [sga_12 hj] at c1 c3
      intro i hi e
      refine c3 (i : Int) (by omega) (by omega) (fun q => ?_) (by rw [sga_12 (by omega)]; exact e)
      rw [sga_12 (by omega)] at q
      rw [q.2, t63] at e
      exact c1 e.symm
  refine ⟨fun j hj => tof_b (sg j), fun i j hi hj e n => ?_⟩
  have e : tof (sg i) = tof (sg j) := e
  have n : tof (sg i) ≠ -6 := n
  rcases Nat.lt_trichotomy i j with c | c | c
  · rcases key j hj with k | k
    · rw [e] at n; exact absurd k n
    · exact absurd e (k i c)
  · exact c
  · rcases key i hi with k | k
    · exact absurd k n
    · exact absurd e.symm (k j c)
theorem tset_at {m g : Nat → Int} {t : Nat} {j : Nat} (h : j < 12) : rwm (tset m t g 12) (t : Int) j = g j := by
  show (if 12 * t ≤ 12 * ((t : Int)).toNat + j ∧ 12 * ((t : Int)).toNat + j < 12 * t + 12 then g (12 * ((t : Int)).toNat + j - 12 * t) else _) = _
  rw [Int.toNat_natCast, if_pos (by omega), show 12 * t + j - 12 * t = j by omega]
theorem tset_ne {m g : Nat → Int} {t : Nat} {r : Int} (h0 : 0 ≤ r) (hr : r ≠ (t : Int)) {j : Nat} (h : j < 12) : rwm (tset m t g 12) r j = rwm m r j := by
  show (if 12 * t ≤ 12 * r.toNat + j ∧ 12 * r.toNat + j < 12 * t + 12 then _ else m (12 * r.toNat + j)) = m (12 * r.toNat + j)
  rw [if_neg (by omega)]
theorem tset_ok {m g pat sg : Nat → Int} {cnt cnt' : Int} {t : Nat} (ht : t < 4) (ok : okV m pat sg cnt) (g1 : tn g) (g2 : inj12 g) (hc : 0 ≤ cnt' ∧ cnt' ≤ 20) : okV (tset m t g 12) pat sg cnt' := by
  obtain ⟨a, b, c, d, e, -⟩ := ok
  refine ⟨fun j hj => ?_, fun r r0 r1 => ?_, c, d, e, hc.1, hc.2⟩
  · unfold tset
    split
    · exact g1 _ (by omega)
    · exact a j hj
  · by_cases q : r = (t : Int)
    · subst q; exact inj_c (fun j hj => tset_at hj) g2
    · exact inj_c (fun j hj => tset_ne r0 q hj) (b r r0 r1)
theorem hol_c {f g : Nat → Int} (h : ∀ j, j < 12 → f j = g j) : hol f 12 = hol g 12 := cntN_congr (fun j hj => by rw [h j hj])
theorem canon_eq {m : Nat → Int} (hm : mt m) (hi : inj4 m) (r w : Int) : V_canon szC m r w = V_canon szM m r w := by
  unfold V_canon
  by_cases q : 0 ≤ r ∧ r < 4
  · rw [sz_eq (rwm_tn hm q) (hi r q.1 q.2)]
  · rw [if_neg q, if_neg q]
theorem step_eq (m : Nat → Int) (r w : Int) : V_step usC m r w = V_step usM m r w := by
  unfold V_step
  rw [us_eq]
