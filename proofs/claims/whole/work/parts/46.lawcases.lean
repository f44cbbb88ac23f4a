section Rules
variable {b0 L0 : Nat} {xs : Nat → Int32} {z : ZM} {R : Room} {MC MS k n pc pn : Nat} {ls : List (Nat × AV)} {st : List AV} {h : List AC} {Q : Option Int → List AC → Prop}
theorem LW.relist {nm : String} {L L' : Lst} (hL : okL code L') (kk : LW b0 L0 xs (zK nm L') R MC MS k n pc ls st h Q) : LW b0 L0 xs (zK nm L) R MC MS k n pc ls st h Q := by
  intro p l e s m args below meth c D τ A ρ0 ρ Zf C hK hA hG hZ H locs lsA hP hD hS hl
  obtain ⟨c1, c2, c3, c4, c5, -, c7, c8, c9⟩ := C
  exact kk p l e s m args below meth c D τ A ρ0 ρ Zf ⟨c1, c2, c3, c4, c5, hL, c7, c8, c9⟩ hK hA hG hZ H locs lsA hP hD hS hl
theorem LW.same {a off : Int} {tgt : Nat} (hf : ftch z.2.2.2.2 pc = some (.if_icmp .eq off, 3)) (ht : (pc : Int) + off = (tgt : Int)) (kt : LW b0 L0 xs z R MC MS k n tgt ls st h Q) : LW b0 L0 xs z R MC MS k n pc ls (vi a :: vi a :: st) h Q := by
  intro p l e s m args below meth c D τ A ρ0 ρ Zf C hK hA hG hZ H locs lsA hP hD hS hl
  obtain ⟨hx, hb', -, -, -, hL, -, -, -⟩ := id C
  obtain ⟨hd, -⟩ := okL_at hL hf
  exact lv_icmp_eq hx hb' hd ht (fun _ => kt p l e s m args below meth c D τ A ρ0 ρ Zf C hK hA hG hZ H locs lsA hP hD hS hl) (fun w => absurd rfl w)
theorem LW.callP {zc zm : ZM} {idx np : Nat} {fs : List AV} {as : List AV} {st0 : List AV} (hf : ftch z.2.2.2.2 pc = some (.invokevirtual idx, 3)) (hn : pc + 3 = pn) (lk : LVt z.1.cls idx zc np 3) (hh : h[0]? = some (ao 3 fs)) (hp : PC zc zm as h) (hst : st0 = as.reverse ++ [vr 0]) (hnp : as.length = np) (hR : 13 ≤ R.frames ∧ 520 ≤ R.locals) (hc0 : k ≤ R.cells ∧ n ≤ R.slots)
    (kk : ∀ (a : Int) (u : List AC) (fs : List AV) (Qm : Option Int → List AC → Prop), u[29]? = some (ao 4 fs) → M0 zm 12 (vr 29 :: as) u Qm → (∀ v' u', Qm v' u' → v' = some a ∧ INVw u') → LW b0 L0 xs z R MC MS k n pn ls [vi a] u Q) : LW b0 L0 xs z R MC MS k n pc ls st0 h Q := by
  obtain ⟨Qc, hM, hq⟩ := hp
  refine LW.callV hf hn lk hh hM hst hnp (Nat.le_of_ble_eq_true rfl) hR hc0 ?_
  intro v u hv
  obtain ⟨a, fs', Qm, rfl, e29, hMm, hQm⟩ := hq v u hv
  exact kk a u fs' Qm e29 hMm hQm
theorem LW.callM {zm : ZM} {idx np : Nat} {fs : List AV} {as : List AV} {st0 : List AV} {a : Int} {Qm : Option Int → List AC → Prop} (hf : ftch z.2.2.2.2 pc = some (.invokevirtual idx, 3)) (hn : pc + 3 = pn) (lk : LVt z.1.cls idx zm np 4) (hh : h[29]? = some (ao 4 fs)) (hM : M0 zm 12 (vr 29 :: as) h Qm) (hq : ∀ v' u', Qm v' u' → v' = some a ∧ INVw u') (hst : st0 = as.reverse ++ [vr 29, vi a]) (hnp : as.length = np) (hR : 13 ≤ R.frames ∧ 520 ≤ R.locals) (hc0 : k ≤ R.cells ∧ n ≤ R.slots)
    (kk : ∀ u : List AC, INVw u → LW b0 L0 xs z R MC MS k n pn ls [vi a, vi a] u Q) : LW b0 L0 xs z R MC MS k n pc ls st0 h Q := by
  refine LW.callV hf hn lk hh hM hst hnp (Nat.le_of_ble_eq_true rfl) hR hc0 ?_
  intro v u hv
  obtain ⟨rfl, iw⟩ := hq v u hv
  exact kk u iw
end Rules
abbrev lsK (i : Int) : List (Nat × AV) := [(0, vr 1000), (1, vr 0), (2, vr 29), (3, vi i)]
abbrev QL : Option Int → List AC → Prop := fun v _ => v = some 1
section Cases
variable {b0 L0 : Nat} {xs : Nat → Int32} {nm : String} {h : List AC} {m pat sg : Nat → Int} {cnt : Int} {kf : Nat → Int} {fI : Nat → Nat → Nat → Int} {pI : Nat → Nat → Int} {q ik : Nat → Int}
set_option maxHeartbeats 1000000 in
theorem case_0 (I : INV h m pat sg cnt kf fI pI q ik) (i : Int) (h0 : 0 ≤ i) (h1 : i + 5 ≤ (L0 : Int)) (hL : L0 ≤ 2560) (next : ∀ u : List AC, INVw u → LW b0 L0 xs (zK nm yl_h) room_1 600000 7302250 39 671 819 (lsK i) [] u QL) : LW b0 L0 xs (zK nm yl_h) room_1 600000 7302250 39 671 140 (lsK i) [] h QL := by
  refine LW.relist ok_0 ?_
  refine LW.go 5 (pc' := 145) rfl ?_
  refine LW.sld (pn := 146) rfl rfl hL (by omega) (by omega) ?_
  refine LW.callP (pn := 149) rfl rfl mlL_13 I.2.1.1 (pr_say I ((xs (i + 1).toNat).toInt) (rng_of _)) rfl rfl ⟨Nat.le_of_ble_eq_true rfl, Nat.le_of_ble_eq_true rfl⟩ ⟨Nat.le_of_ble_eq_true rfl, Nat.le_of_ble_eq_true rfl⟩ ?_
  intro a u fs Qm e29 hM hQ
  refine LW.go 5 (pc' := 154) rfl ?_
  refine LW.sld (pn := 155) rfl rfl hL (by omega) (by omega) ?_
  refine LW.callM (pn := 158) rfl rfl mlL_17 e29 hM hQ rfl rfl ⟨Nat.le_of_ble_eq_true rfl, Nat.le_of_ble_eq_true rfl⟩ ⟨Nat.le_of_ble_eq_true rfl, Nat.le_of_ble_eq_true rfl⟩ ?_
  intro w iw
  refine LW.same (tgt := 819) rfl (by decide) ?_
  exact LW.relist ok_h (next w iw)
set_option maxHeartbeats 1000000 in
theorem case_1 (I : INV h m pat sg cnt kf fI pI q ik) (i : Int) (h0 : 0 ≤ i) (h1 : i + 5 ≤ (L0 : Int)) (hL : L0 ≤ 2560) (next : ∀ u : List AC, INVw u → LW b0 L0 xs (zK nm yl_h) room_1 600000 7302250 39 671 819 (lsK i) [] u QL) : LW b0 L0 xs (zK nm yl_h) room_1 600000 7302250 39 671 163 (lsK i) [] h QL := by
  refine LW.relist ok_1 ?_
  refine LW.go 1 (pc' := 164) rfl ?_
  refine LW.callP (pn := 167) rfl rfl mlL_18 I.2.1.1 (pr_wipe I  ) rfl rfl ⟨Nat.le_of_ble_eq_true rfl, Nat.le_of_ble_eq_true rfl⟩ ⟨Nat.le_of_ble_eq_true rfl, Nat.le_of_ble_eq_true rfl⟩ ?_
  intro a u fs Qm e29 hM hQ
  refine LW.go 1 (pc' := 168) rfl ?_
  refine LW.callM (pn := 171) rfl rfl mlL_22 e29 hM hQ rfl rfl ⟨Nat.le_of_ble_eq_true rfl, Nat.le_of_ble_eq_true rfl⟩ ⟨Nat.le_of_ble_eq_true rfl, Nat.le_of_ble_eq_true rfl⟩ ?_
  intro w iw
  refine LW.same (tgt := 819) rfl (by decide) ?_
  exact LW.relist ok_h (next w iw)
set_option maxHeartbeats 1000000 in
theorem case_2 (I : INV h m pat sg cnt kf fI pI q ik) (i : Int) (h0 : 0 ≤ i) (h1 : i + 5 ≤ (L0 : Int)) (hL : L0 ≤ 2560) (next : ∀ u : List AC, INVw u → LW b0 L0 xs (zK nm yl_h) room_1 600000 7302250 39 671 819 (lsK i) [] u QL) : LW b0 L0 xs (zK nm yl_h) room_1 600000 7302250 39 671 176 (lsK i) [] h QL := by
  refine LW.relist ok_2 ?_
  refine LW.go 5 (pc' := 181) rfl ?_
  refine LW.sld (pn := 182) rfl rfl hL (by omega) (by omega) ?_
  refine LW.callP (pn := 185) rfl rfl mlL_23 I.2.1.1 (pr_fault I ((xs (i + 1).toNat).toInt) (rng_of _)) rfl rfl ⟨Nat.le_of_ble_eq_true rfl, Nat.le_of_ble_eq_true rfl⟩ ⟨Nat.le_of_ble_eq_true rfl, Nat.le_of_ble_eq_true rfl⟩ ?_
  intro a u fs Qm e29 hM hQ
  refine LW.go 5 (pc' := 190) rfl ?_
  refine LW.sld (pn := 191) rfl rfl hL (by omega) (by omega) ?_
  refine LW.callM (pn := 194) rfl rfl mlL_26 e29 hM hQ rfl rfl ⟨Nat.le_of_ble_eq_true rfl, Nat.le_of_ble_eq_true rfl⟩ ⟨Nat.le_of_ble_eq_true rfl, Nat.le_of_ble_eq_true rfl⟩ ?_
  intro w iw
  refine LW.same (tgt := 819) rfl (by decide) ?_
  exact LW.relist ok_h (next w iw)
set_option maxHeartbeats 1000000 in
theorem case_3 (I : INV h m pat sg cnt kf fI pI q ik) (i : Int) (h0 : 0 ≤ i) (h1 : i + 5 ≤ (L0 : Int)) (hL : L0 ≤ 2560) (next : ∀ u : List AC, INVw u → LW b0 L0 xs (zK nm yl_h) room_1 600000 7302250 39 671 819 (lsK i) [] u QL) : LW b0 L0 xs (zK nm yl_h) room_1 600000 7302250 39 671 199 (lsK i) [] h QL := by
  refine LW.relist ok_3 ?_
  refine LW.go 5 (pc' := 204) rfl ?_
  refine LW.sld (pn := 205) rfl rfl hL (by omega) (by omega) ?_
  refine LW.callP (pn := 208) rfl rfl mlL_27 I.2.1.1 (pr_load I ((xs (i + 1).toNat).toInt) (rng_of _)) rfl rfl ⟨Nat.le_of_ble_eq_true rfl, Nat.le_of_ble_eq_true rfl⟩ ⟨Nat.le_of_ble_eq_true rfl, Nat.le_of_ble_eq_true rfl⟩ ?_
  intro a u fs Qm e29 hM hQ
  refine LW.go 5 (pc' := 213) rfl ?_
  refine LW.sld (pn := 214) rfl rfl hL (by omega) (by omega) ?_
  refine LW.callM (pn := 217) rfl rfl mlL_30 e29 hM hQ rfl rfl ⟨Nat.le_of_ble_eq_true rfl, Nat.le_of_ble_eq_true rfl⟩ ⟨Nat.le_of_ble_eq_true rfl, Nat.le_of_ble_eq_true rfl⟩ ?_
  intro w iw
  refine LW.same (tgt := 819) rfl (by decide) ?_
  exact LW.relist ok_h (next w iw)
set_option maxHeartbeats 1000000 in
theorem case_4 (I : INV h m pat sg cnt kf fI pI q ik) (i : Int) (h0 : 0 ≤ i) (h1 : i + 5 ≤ (L0 : Int)) (hL : L0 ≤ 2560) (next : ∀ u : List AC, INVw u → LW b0 L0 xs (zK nm yl_h) room_1 600000 7302250 39 671 819 (lsK i) [] u QL) : LW b0 L0 xs (zK nm yl_h) room_1 600000 7302250 39 671 222 (lsK i) [] h QL := by
  refine LW.relist ok_4 ?_
  refine LW.go 1 (pc' := 223) rfl ?_
  refine LW.callP (pn := 226) rfl rfl mlL_31 I.2.1.1 (pr_punch I  ) rfl rfl ⟨Nat.le_of_ble_eq_true rfl, Nat.le_of_ble_eq_true rfl⟩ ⟨Nat.le_of_ble_eq_true rfl, Nat.le_of_ble_eq_true rfl⟩ ?_
  intro a u fs Qm e29 hM hQ
  refine LW.go 1 (pc' := 227) rfl ?_
  refine LW.callM (pn := 230) rfl rfl mlL_34 e29 hM hQ rfl rfl ⟨Nat.le_of_ble_eq_true rfl, Nat.le_of_ble_eq_true rfl⟩ ⟨Nat.le_of_ble_eq_true rfl, Nat.le_of_ble_eq_true rfl⟩ ?_
  intro w iw
  refine LW.same (tgt := 819) rfl (by decide) ?_
  exact LW.relist ok_h (next w iw)
set_option maxHeartbeats 1000000 in
theorem case_5 (I : INV h m pat sg cnt kf fI pI q ik) (i : Int) (h0 : 0 ≤ i) (h1 : i + 5 ≤ (L0 : Int)) (hL : L0 ≤ 2560) (next : ∀ u : List AC, INVw u → LW b0 L0 xs (zK nm yl_h) room_1 600000 7302250 39 671 819 (lsK i) [] u QL) : LW b0 L0 xs (zK nm yl_h) room_1 600000 7302250 39 671 235 (lsK i) [] h QL := by
  refine LW.relist ok_5 ?_
  refine LW.go 1 (pc' := 236) rfl ?_
  refine LW.callP (pn := 239) rfl rfl mlL_35 I.2.1.1 (pr_named I  ) rfl rfl ⟨Nat.le_of_ble_eq_true rfl, Nat.le_of_ble_eq_true rfl⟩ ⟨Nat.le_of_ble_eq_true rfl, Nat.le_of_ble_eq_true rfl⟩ ?_
  intro a u fs Qm e29 hM hQ
  refine LW.go 1 (pc' := 240) rfl ?_
  refine LW.callM (pn := 243) rfl rfl mlL_38 e29 hM hQ rfl rfl ⟨Nat.le_of_ble_eq_true rfl, Nat.le_of_ble_eq_true rfl⟩ ⟨Nat.le_of_ble_eq_true rfl, Nat.le_of_ble_eq_true rfl⟩ ?_
  intro w iw
  refine LW.same (tgt := 819) rfl (by decide) ?_
  exact LW.relist ok_h (next w iw)
set_option maxHeartbeats 1000000 in
theorem case_6 (I : INV h m pat sg cnt kf fI pI q ik) (i : Int) (h0 : 0 ≤ i) (h1 : i + 5 ≤ (L0 : Int)) (hL : L0 ≤ 2560) (next : ∀ u : List AC, INVw u → LW b0 L0 xs (zK nm yl_h) room_1 600000 7302250 39 671 819 (lsK i) [] u QL) : LW b0 L0 xs (zK nm yl_h) room_1 600000 7302250 39 671 248 (lsK i) [] h QL := by
  refine LW.relist ok_6 ?_
  refine LW.go 5 (pc' := 253) rfl ?_
  refine LW.sld (pn := 254) rfl rfl hL (by omega) (by omega) ?_
  refine LW.go 4 (pc' := 258) rfl ?_
  refine LW.sld (pn := 259) rfl rfl hL (by omega) (by omega) ?_
  refine LW.callP (pn := 262) rfl rfl mlL_39 I.2.1.1 (pr_tone I ((xs (i + 1).toNat).toInt) ((xs (i + 2).toNat).toInt) (rng_of _) (rng_of _)) rfl rfl ⟨Nat.le_of_ble_eq_true rfl, Nat.le_of_ble_eq_true rfl⟩ ⟨Nat.le_of_ble_eq_true rfl, Nat.le_of_ble_eq_true rfl⟩ ?_
  intro a u fs Qm e29 hM hQ
  refine LW.go 5 (pc' := 267) rfl ?_
  refine LW.sld (pn := 268) rfl rfl hL (by omega) (by omega) ?_
  refine LW.go 4 (pc' := 272) rfl ?_
  refine LW.sld (pn := 273) rfl rfl hL (by omega) (by omega) ?_
  refine LW.callM (pn := 276) rfl rfl mlL_43 e29 hM hQ rfl rfl ⟨Nat.le_of_ble_eq_true rfl, Nat.le_of_ble_eq_true rfl⟩ ⟨Nat.le_of_ble_eq_true rfl, Nat.le_of_ble_eq_true rfl⟩ ?_
  intro w iw
  refine LW.same (tgt := 819) rfl (by decide) ?_
  exact LW.relist ok_h (next w iw)
set_option maxHeartbeats 1000000 in
theorem case_7 (I : INV h m pat sg cnt kf fI pI q ik) (i : Int) (h0 : 0 ≤ i) (h1 : i + 5 ≤ (L0 : Int)) (hL : L0 ≤ 2560) (next : ∀ u : List AC, INVw u → LW b0 L0 xs (zK nm yl_h) room_1 600000 7302250 39 671 819 (lsK i) [] u QL) : LW b0 L0 xs (zK nm yl_h) room_1 600000 7302250 39 671 281 (lsK i) [] h QL := by
  refine LW.relist ok_7 ?_
  refine LW.go 5 (pc' := 286) rfl ?_
  refine LW.sld (pn := 287) rfl rfl hL (by omega) (by omega) ?_
  refine LW.go 4 (pc' := 291) rfl ?_
  refine LW.sld (pn := 292) rfl rfl hL (by omega) (by omega) ?_
  refine LW.go 4 (pc' := 296) rfl ?_
  refine LW.sld (pn := 297) rfl rfl hL (by omega) (by omega) ?_
  refine LW.callP (pn := 300) rfl rfl mlL_44 I.2.1.1 (pr_turn I ((xs (i + 1).toNat).toInt) ((xs (i + 2).toNat).toInt) ((xs (i + 3).toNat).toInt) (rng_of _) (rng_of _) (rng_of _)) rfl rfl ⟨Nat.le_of_ble_eq_true rfl, Nat.le_of_ble_eq_true rfl⟩ ⟨Nat.le_of_ble_eq_true rfl, Nat.le_of_ble_eq_true rfl⟩ ?_
  intro a u fs Qm e29 hM hQ
  refine LW.go 5 (pc' := 305) rfl ?_
  refine LW.sld (pn := 306) rfl rfl hL (by omega) (by omega) ?_
  refine LW.go 4 (pc' := 310) rfl ?_
  refine LW.sld (pn := 311) rfl rfl hL (by omega) (by omega) ?_
  refine LW.go 4 (pc' := 315) rfl ?_
  refine LW.sld (pn := 316) rfl rfl hL (by omega) (by omega) ?_
  refine LW.callM (pn := 319) rfl rfl mlL_48 e29 hM hQ rfl rfl ⟨Nat.le_of_ble_eq_true rfl, Nat.le_of_ble_eq_true rfl⟩ ⟨Nat.le_of_ble_eq_true rfl, Nat.le_of_ble_eq_true rfl⟩ ?_
  intro w iw
  refine LW.same (tgt := 819) rfl (by decide) ?_
  exact LW.relist ok_h (next w iw)
set_option maxHeartbeats 1000000 in
theorem case_8 (I : INV h m pat sg cnt kf fI pI q ik) (i : Int) (h0 : 0 ≤ i) (h1 : i + 5 ≤ (L0 : Int)) (hL : L0 ≤ 2560) (next : ∀ u : List AC, INVw u → LW b0 L0 xs (zK nm yl_h) room_1 600000 7302250 39 671 819 (lsK i) [] u QL) : LW b0 L0 xs (zK nm yl_h) room_1 600000 7302250 39 671 324 (lsK i) [] h QL := by
  refine LW.relist ok_8 ?_
  refine LW.go 5 (pc' := 329) rfl ?_
  refine LW.sld (pn := 330) rfl rfl hL (by omega) (by omega) ?_
  refine LW.go 4 (pc' := 334) rfl ?_
  refine LW.sld (pn := 335) rfl rfl hL (by omega) (by omega) ?_
  refine LW.callP (pn := 338) rfl rfl mlL_49 I.2.1.1 (pr_behind I ((xs (i + 1).toNat).toInt) ((xs (i + 2).toNat).toInt) (rng_of _) (rng_of _)) rfl rfl ⟨Nat.le_of_ble_eq_true rfl, Nat.le_of_ble_eq_true rfl⟩ ⟨Nat.le_of_ble_eq_true rfl, Nat.le_of_ble_eq_true rfl⟩ ?_
  intro a u fs Qm e29 hM hQ
  refine LW.go 5 (pc' := 343) rfl ?_
  refine LW.sld (pn := 344) rfl rfl hL (by omega) (by omega) ?_
  refine LW.go 4 (pc' := 348) rfl ?_
  refine LW.sld (pn := 349) rfl rfl hL (by omega) (by omega) ?_
  refine LW.callM (pn := 352) rfl rfl mlL_52 e29 hM hQ rfl rfl ⟨Nat.le_of_ble_eq_true rfl, Nat.le_of_ble_eq_true rfl⟩ ⟨Nat.le_of_ble_eq_true rfl, Nat.le_of_ble_eq_true rfl⟩ ?_
  intro w iw
  refine LW.same (tgt := 819) rfl (by decide) ?_
  exact LW.relist ok_h (next w iw)
set_option maxHeartbeats 1000000 in
theorem case_9 (I : INV h m pat sg cnt kf fI pI q ik) (i : Int) (h0 : 0 ≤ i) (h1 : i + 5 ≤ (L0 : Int)) (hL : L0 ≤ 2560) (next : ∀ u : List AC, INVw u → LW b0 L0 xs (zK nm yl_h) room_1 600000 7302250 39 671 819 (lsK i) [] u QL) : LW b0 L0 xs (zK nm yl_h) room_1 600000 7302250 39 671 357 (lsK i) [] h QL := by
  refine LW.relist ok_9 ?_
  refine LW.go 5 (pc' := 362) rfl ?_
  refine LW.sld (pn := 363) rfl rfl hL (by omega) (by omega) ?_
  refine LW.callP (pn := 366) rfl rfl mlL_53 I.2.1.1 (pr_back I ((xs (i + 1).toNat).toInt) (rng_of _)) rfl rfl ⟨Nat.le_of_ble_eq_true rfl, Nat.le_of_ble_eq_true rfl⟩ ⟨Nat.le_of_ble_eq_true rfl, Nat.le_of_ble_eq_true rfl⟩ ?_
  intro a u fs Qm e29 hM hQ
  refine LW.go 5 (pc' := 371) rfl ?_
  refine LW.sld (pn := 372) rfl rfl hL (by omega) (by omega) ?_
  refine LW.callM (pn := 375) rfl rfl mlL_56 e29 hM hQ rfl rfl ⟨Nat.le_of_ble_eq_true rfl, Nat.le_of_ble_eq_true rfl⟩ ⟨Nat.le_of_ble_eq_true rfl, Nat.le_of_ble_eq_true rfl⟩ ?_
  intro w iw
  refine LW.same (tgt := 819) rfl (by decide) ?_
  exact LW.relist ok_h (next w iw)
set_option maxHeartbeats 1000000 in
theorem case_10 (I : INV h m pat sg cnt kf fI pI q ik) (i : Int) (h0 : 0 ≤ i) (h1 : i + 5 ≤ (L0 : Int)) (hL : L0 ≤ 2560) (next : ∀ u : List AC, INVw u → LW b0 L0 xs (zK nm yl_h) room_1 600000 7302250 39 671 819 (lsK i) [] u QL) : LW b0 L0 xs (zK nm yl_h) room_1 600000 7302250 39 671 380 (lsK i) [] h QL := by
  refine LW.relist ok_10 ?_
  refine LW.go 5 (pc' := 385) rfl ?_
  refine LW.sld (pn := 386) rfl rfl hL (by omega) (by omega) ?_
  refine LW.go 4 (pc' := 390) rfl ?_
  refine LW.sld (pn := 391) rfl rfl hL (by omega) (by omega) ?_
  refine LW.callP (pn := 394) rfl rfl mlL_57 I.2.1.1 (pr_canon I ((xs (i + 1).toNat).toInt) ((xs (i + 2).toNat).toInt) (rng_of _) (rng_of _)) rfl rfl ⟨Nat.le_of_ble_eq_true rfl, Nat.le_of_ble_eq_true rfl⟩ ⟨Nat.le_of_ble_eq_true rfl, Nat.le_of_ble_eq_true rfl⟩ ?_
  intro a u fs Qm e29 hM hQ
  refine LW.go 5 (pc' := 399) rfl ?_
  refine LW.sld (pn := 400) rfl rfl hL (by omega) (by omega) ?_
  refine LW.go 4 (pc' := 404) rfl ?_
  refine LW.sld (pn := 405) rfl rfl hL (by omega) (by omega) ?_
  refine LW.callM (pn := 408) rfl rfl mlL_60 e29 hM hQ rfl rfl ⟨Nat.le_of_ble_eq_true rfl, Nat.le_of_ble_eq_true rfl⟩ ⟨Nat.le_of_ble_eq_true rfl, Nat.le_of_ble_eq_true rfl⟩ ?_
  intro w iw
  refine LW.same (tgt := 819) rfl (by decide) ?_
  exact LW.relist ok_h (next w iw)
set_option maxHeartbeats 1000000 in
theorem case_11 (I : INV h m pat sg cnt kf fI pI q ik) (i : Int) (h0 : 0 ≤ i) (h1 : i + 5 ≤ (L0 : Int)) (hL : L0 ≤ 2560) (next : ∀ u : List AC, INVw u → LW b0 L0 xs (zK nm yl_h) room_1 600000 7302250 39 671 819 (lsK i) [] u QL) : LW b0 L0 xs (zK nm yl_h) room_1 600000 7302250 39 671 413 (lsK i) [] h QL := by
  refine LW.relist ok_11 ?_
  refine LW.go 5 (pc' := 418) rfl ?_
  refine LW.sld (pn := 419) rfl rfl hL (by omega) (by omega) ?_
  refine LW.go 4 (pc' := 423) rfl ?_
  refine LW.sld (pn := 424) rfl rfl hL (by omega) (by omega) ?_
  refine LW.go 4 (pc' := 428) rfl ?_
  refine LW.sld (pn := 429) rfl rfl hL (by omega) (by omega) ?_
  refine LW.callP (pn := 432) rfl rfl mlL_61 I.2.1.1 (pr_leads I ((xs (i + 1).toNat).toInt) ((xs (i + 2).toNat).toInt) ((xs (i + 3).toNat).toInt) (rng_of _) (rng_of _) (rng_of _)) rfl rfl ⟨Nat.le_of_ble_eq_true rfl, Nat.le_of_ble_eq_true rfl⟩ ⟨Nat.le_of_ble_eq_true rfl, Nat.le_of_ble_eq_true rfl⟩ ?_
  intro a u fs Qm e29 hM hQ
  refine LW.go 5 (pc' := 437) rfl ?_
  refine LW.sld (pn := 438) rfl rfl hL (by omega) (by omega) ?_
  refine LW.go 4 (pc' := 442) rfl ?_
  refine LW.sld (pn := 443) rfl rfl hL (by omega) (by omega) ?_
  refine LW.go 4 (pc' := 447) rfl ?_
  refine LW.sld (pn := 448) rfl rfl hL (by omega) (by omega) ?_
  refine LW.callM (pn := 451) rfl rfl mlL_64 e29 hM hQ rfl rfl ⟨Nat.le_of_ble_eq_true rfl, Nat.le_of_ble_eq_true rfl⟩ ⟨Nat.le_of_ble_eq_true rfl, Nat.le_of_ble_eq_true rfl⟩ ?_
  intro w iw
  refine LW.same (tgt := 819) rfl (by decide) ?_
  exact LW.relist ok_h (next w iw)
set_option maxHeartbeats 1000000 in
theorem case_12 (I : INV h m pat sg cnt kf fI pI q ik) (i : Int) (h0 : 0 ≤ i) (h1 : i + 5 ≤ (L0 : Int)) (hL : L0 ≤ 2560) (next : ∀ u : List AC, INVw u → LW b0 L0 xs (zK nm yl_h) room_1 600000 7302250 39 671 819 (lsK i) [] u QL) : LW b0 L0 xs (zK nm yl_h) room_1 600000 7302250 39 671 456 (lsK i) [] h QL := by
  refine LW.relist ok_12 ?_
  refine LW.go 5 (pc' := 461) rfl ?_
  refine LW.sld (pn := 462) rfl rfl hL (by omega) (by omega) ?_
  refine LW.go 4 (pc' := 466) rfl ?_
  refine LW.sld (pn := 467) rfl rfl hL (by omega) (by omega) ?_
  refine LW.callP (pn := 470) rfl rfl mlL_65 I.2.1.1 (pr_step I ((xs (i + 1).toNat).toInt) ((xs (i + 2).toNat).toInt) (rng_of _) (rng_of _)) rfl rfl ⟨Nat.le_of_ble_eq_true rfl, Nat.le_of_ble_eq_true rfl⟩ ⟨Nat.le_of_ble_eq_true rfl, Nat.le_of_ble_eq_true rfl⟩ ?_
  intro a u fs Qm e29 hM hQ
  refine LW.go 5 (pc' := 475) rfl ?_
  refine LW.sld (pn := 476) rfl rfl hL (by omega) (by omega) ?_
  refine LW.go 4 (pc' := 480) rfl ?_
  refine LW.sld (pn := 481) rfl rfl hL (by omega) (by omega) ?_
  refine LW.callM (pn := 484) rfl rfl mlL_68 e29 hM hQ rfl rfl ⟨Nat.le_of_ble_eq_true rfl, Nat.le_of_ble_eq_true rfl⟩ ⟨Nat.le_of_ble_eq_true rfl, Nat.le_of_ble_eq_true rfl⟩ ?_
  intro w iw
  refine LW.same (tgt := 819) rfl (by decide) ?_
  exact LW.relist ok_h (next w iw)
set_option maxHeartbeats 1000000 in
theorem case_13 (I : INV h m pat sg cnt kf fI pI q ik) (i : Int) (h0 : 0 ≤ i) (h1 : i + 5 ≤ (L0 : Int)) (hL : L0 ≤ 2560) (next : ∀ u : List AC, INVw u → LW b0 L0 xs (zK nm yl_h) room_1 600000 7302250 39 671 819 (lsK i) [] u QL) : LW b0 L0 xs (zK nm yl_h) room_1 600000 7302250 39 671 489 (lsK i) [] h QL := by
  refine LW.relist ok_13 ?_
  refine LW.go 5 (pc' := 494) rfl ?_
  refine LW.sld (pn := 495) rfl rfl hL (by omega) (by omega) ?_
  refine LW.go 4 (pc' := 499) rfl ?_
  refine LW.sld (pn := 500) rfl rfl hL (by omega) (by omega) ?_
  refine LW.go 4 (pc' := 504) rfl ?_
  refine LW.sld (pn := 505) rfl rfl hL (by omega) (by omega) ?_
  refine LW.callP (pn := 508) rfl rfl mlL_69 I.2.1.1 (pr_shared I ((xs (i + 1).toNat).toInt) ((xs (i + 2).toNat).toInt) ((xs (i + 3).toNat).toInt) (rng_of _) (rng_of _) (rng_of _)) rfl rfl ⟨Nat.le_of_ble_eq_true rfl, Nat.le_of_ble_eq_true rfl⟩ ⟨Nat.le_of_ble_eq_true rfl, Nat.le_of_ble_eq_true rfl⟩ ?_
  intro a u fs Qm e29 hM hQ
  refine LW.go 5 (pc' := 513) rfl ?_
  refine LW.sld (pn := 514) rfl rfl hL (by omega) (by omega) ?_
  refine LW.go 4 (pc' := 518) rfl ?_
  refine LW.sld (pn := 519) rfl rfl hL (by omega) (by omega) ?_
  refine LW.go 4 (pc' := 523) rfl ?_
  refine LW.sld (pn := 524) rfl rfl hL (by omega) (by omega) ?_
  refine LW.callM (pn := 527) rfl rfl mlL_72 e29 hM hQ rfl rfl ⟨Nat.le_of_ble_eq_true rfl, Nat.le_of_ble_eq_true rfl⟩ ⟨Nat.le_of_ble_eq_true rfl, Nat.le_of_ble_eq_true rfl⟩ ?_
  intro w iw
  refine LW.same (tgt := 819) rfl (by decide) ?_
  exact LW.relist ok_h (next w iw)
set_option maxHeartbeats 1000000 in
theorem case_14 (I : INV h m pat sg cnt kf fI pI q ik) (i : Int) (h0 : 0 ≤ i) (h1 : i + 5 ≤ (L0 : Int)) (hL : L0 ≤ 2560) (next : ∀ u : List AC, INVw u → LW b0 L0 xs (zK nm yl_h) room_1 600000 7302250 39 671 819 (lsK i) [] u QL) : LW b0 L0 xs (zK nm yl_h) room_1 600000 7302250 39 671 532 (lsK i) [] h QL := by
  refine LW.relist ok_14 ?_
  refine LW.go 5 (pc' := 537) rfl ?_
  refine LW.sld (pn := 538) rfl rfl hL (by omega) (by omega) ?_
  refine LW.go 4 (pc' := 542) rfl ?_
  refine LW.sld (pn := 543) rfl rfl hL (by omega) (by omega) ?_
  refine LW.callP (pn := 546) rfl rfl mlL_73 I.2.1.1 (pr_partner I ((xs (i + 1).toNat).toInt) ((xs (i + 2).toNat).toInt) (rng_of _) (rng_of _)) rfl rfl ⟨Nat.le_of_ble_eq_true rfl, Nat.le_of_ble_eq_true rfl⟩ ⟨Nat.le_of_ble_eq_true rfl, Nat.le_of_ble_eq_true rfl⟩ ?_
  intro a u fs Qm e29 hM hQ
  refine LW.go 5 (pc' := 551) rfl ?_
  refine LW.sld (pn := 552) rfl rfl hL (by omega) (by omega) ?_
  refine LW.go 4 (pc' := 556) rfl ?_
  refine LW.sld (pn := 557) rfl rfl hL (by omega) (by omega) ?_
  refine LW.callM (pn := 560) rfl rfl mlL_76 e29 hM hQ rfl rfl ⟨Nat.le_of_ble_eq_true rfl, Nat.le_of_ble_eq_true rfl⟩ ⟨Nat.le_of_ble_eq_true rfl, Nat.le_of_ble_eq_true rfl⟩ ?_
  intro w iw
  refine LW.same (tgt := 819) rfl (by decide) ?_
  exact LW.relist ok_h (next w iw)
set_option maxHeartbeats 1000000 in
theorem case_15 (I : INV h m pat sg cnt kf fI pI q ik) (i : Int) (h0 : 0 ≤ i) (h1 : i + 5 ≤ (L0 : Int)) (hL : L0 ≤ 2560) (next : ∀ u : List AC, INVw u → LW b0 L0 xs (zK nm yl_h) room_1 600000 7302250 39 671 819 (lsK i) [] u QL) : LW b0 L0 xs (zK nm yl_h) room_1 600000 7302250 39 671 565 (lsK i) [] h QL := by
  refine LW.relist ok_15 ?_
  refine LW.go 5 (pc' := 570) rfl ?_
  refine LW.sld (pn := 571) rfl rfl hL (by omega) (by omega) ?_
  refine LW.go 4 (pc' := 575) rfl ?_
  refine LW.sld (pn := 576) rfl rfl hL (by omega) (by omega) ?_
  refine LW.callP (pn := 579) rfl rfl mlL_77 I.2.1.1 (pr_derived I ((xs (i + 1).toNat).toInt) ((xs (i + 2).toNat).toInt) (rng_of _) (rng_of _)) rfl rfl ⟨Nat.le_of_ble_eq_true rfl, Nat.le_of_ble_eq_true rfl⟩ ⟨Nat.le_of_ble_eq_true rfl, Nat.le_of_ble_eq_true rfl⟩ ?_
  intro a u fs Qm e29 hM hQ
  refine LW.go 5 (pc' := 584) rfl ?_
  refine LW.sld (pn := 585) rfl rfl hL (by omega) (by omega) ?_
  refine LW.go 4 (pc' := 589) rfl ?_
  refine LW.sld (pn := 590) rfl rfl hL (by omega) (by omega) ?_
  refine LW.callM (pn := 593) rfl rfl mlL_80 e29 hM hQ rfl rfl ⟨Nat.le_of_ble_eq_true rfl, Nat.le_of_ble_eq_true rfl⟩ ⟨Nat.le_of_ble_eq_true rfl, Nat.le_of_ble_eq_true rfl⟩ ?_
  intro w iw
  refine LW.same (tgt := 819) rfl (by decide) ?_
  exact LW.relist ok_h (next w iw)
set_option maxHeartbeats 1000000 in
theorem case_16 (I : INV h m pat sg cnt kf fI pI q ik) (i : Int) (h0 : 0 ≤ i) (h1 : i + 5 ≤ (L0 : Int)) (hL : L0 ≤ 2560) (next : ∀ u : List AC, INVw u → LW b0 L0 xs (zK nm yl_h) room_1 600000 7302250 39 671 819 (lsK i) [] u QL) : LW b0 L0 xs (zK nm yl_h) room_1 600000 7302250 39 671 598 (lsK i) [] h QL := by
  refine LW.relist ok_16 ?_
  refine LW.go 5 (pc' := 603) rfl ?_
  refine LW.sld (pn := 604) rfl rfl hL (by omega) (by omega) ?_
  refine LW.go 4 (pc' := 608) rfl ?_
  refine LW.sld (pn := 609) rfl rfl hL (by omega) (by omega) ?_
  refine LW.go 4 (pc' := 613) rfl ?_
  refine LW.sld (pn := 614) rfl rfl hL (by omega) (by omega) ?_
  refine LW.go 4 (pc' := 618) rfl ?_
  refine LW.sld (pn := 619) rfl rfl hL (by omega) (by omega) ?_
  refine LW.callP (pn := 622) rfl rfl mlL_81 I.2.1.1 (pr_making I ((xs (i + 1).toNat).toInt) ((xs (i + 2).toNat).toInt) ((xs (i + 3).toNat).toInt) ((xs (i + 4).toNat).toInt) (rng_of _) (rng_of _) (rng_of _) (rng_of _)) rfl rfl ⟨Nat.le_of_ble_eq_true rfl, Nat.le_of_ble_eq_true rfl⟩ ⟨Nat.le_of_ble_eq_true rfl, Nat.le_of_ble_eq_true rfl⟩ ?_
  intro a u fs Qm e29 hM hQ
  refine LW.go 5 (pc' := 627) rfl ?_
  refine LW.sld (pn := 628) rfl rfl hL (by omega) (by omega) ?_
  refine LW.go 4 (pc' := 632) rfl ?_
  refine LW.sld (pn := 633) rfl rfl hL (by omega) (by omega) ?_
  refine LW.go 4 (pc' := 637) rfl ?_
  refine LW.sld (pn := 638) rfl rfl hL (by omega) (by omega) ?_
  refine LW.go 4 (pc' := 642) rfl ?_
  refine LW.sld (pn := 643) rfl rfl hL (by omega) (by omega) ?_
  refine LW.callM (pn := 646) rfl rfl mlL_85 e29 hM hQ rfl rfl ⟨Nat.le_of_ble_eq_true rfl, Nat.le_of_ble_eq_true rfl⟩ ⟨Nat.le_of_ble_eq_true rfl, Nat.le_of_ble_eq_true rfl⟩ ?_
  intro w iw
  refine LW.same (tgt := 819) rfl (by decide) ?_
  exact LW.relist ok_h (next w iw)
set_option maxHeartbeats 1000000 in
theorem case_17 (I : INV h m pat sg cnt kf fI pI q ik) (i : Int) (h0 : 0 ≤ i) (h1 : i + 5 ≤ (L0 : Int)) (hL : L0 ≤ 2560) (next : ∀ u : List AC, INVw u → LW b0 L0 xs (zK nm yl_h) room_1 600000 7302250 39 671 819 (lsK i) [] u QL) : LW b0 L0 xs (zK nm yl_h) room_1 600000 7302250 39 671 651 (lsK i) [] h QL := by
  refine LW.relist ok_17 ?_
  refine LW.go 5 (pc' := 656) rfl ?_
  refine LW.sld (pn := 657) rfl rfl hL (by omega) (by omega) ?_
  refine LW.callP (pn := 660) rfl rfl mlL_86 I.2.1.1 (pr_fillings I ((xs (i + 1).toNat).toInt) (rng_of _)) rfl rfl ⟨Nat.le_of_ble_eq_true rfl, Nat.le_of_ble_eq_true rfl⟩ ⟨Nat.le_of_ble_eq_true rfl, Nat.le_of_ble_eq_true rfl⟩ ?_
  intro a u fs Qm e29 hM hQ
  refine LW.go 5 (pc' := 665) rfl ?_
  refine LW.sld (pn := 666) rfl rfl hL (by omega) (by omega) ?_
  refine LW.callM (pn := 669) rfl rfl mlL_89 e29 hM hQ rfl rfl ⟨Nat.le_of_ble_eq_true rfl, Nat.le_of_ble_eq_true rfl⟩ ⟨Nat.le_of_ble_eq_true rfl, Nat.le_of_ble_eq_true rfl⟩ ?_
  intro w iw
  refine LW.same (tgt := 819) rfl (by decide) ?_
  exact LW.relist ok_h (next w iw)
set_option maxHeartbeats 1000000 in
theorem case_18 (I : INV h m pat sg cnt kf fI pI q ik) (i : Int) (h0 : 0 ≤ i) (h1 : i + 5 ≤ (L0 : Int)) (hL : L0 ≤ 2560) (next : ∀ u : List AC, INVw u → LW b0 L0 xs (zK nm yl_h) room_1 600000 7302250 39 671 819 (lsK i) [] u QL) : LW b0 L0 xs (zK nm yl_h) room_1 600000 7302250 39 671 674 (lsK i) [] h QL := by
  refine LW.relist ok_18 ?_
  refine LW.go 5 (pc' := 679) rfl ?_
  refine LW.sld (pn := 680) rfl rfl hL (by omega) (by omega) ?_
  refine LW.go 4 (pc' := 684) rfl ?_
  refine LW.sld (pn := 685) rfl rfl hL (by omega) (by omega) ?_
  refine LW.callP (pn := 688) rfl rfl mlL_90 I.2.1.1 (pr_filling I ((xs (i + 1).toNat).toInt) ((xs (i + 2).toNat).toInt) (rng_of _) (rng_of _)) rfl rfl ⟨Nat.le_of_ble_eq_true rfl, Nat.le_of_ble_eq_true rfl⟩ ⟨Nat.le_of_ble_eq_true rfl, Nat.le_of_ble_eq_true rfl⟩ ?_
  intro a u fs Qm e29 hM hQ
  refine LW.go 5 (pc' := 693) rfl ?_
  refine LW.sld (pn := 694) rfl rfl hL (by omega) (by omega) ?_
  refine LW.go 4 (pc' := 698) rfl ?_
  refine LW.sld (pn := 699) rfl rfl hL (by omega) (by omega) ?_
  refine LW.callM (pn := 702) rfl rfl mlL_93 e29 hM hQ rfl rfl ⟨Nat.le_of_ble_eq_true rfl, Nat.le_of_ble_eq_true rfl⟩ ⟨Nat.le_of_ble_eq_true rfl, Nat.le_of_ble_eq_true rfl⟩ ?_
  intro w iw
  refine LW.same (tgt := 819) rfl (by decide) ?_
  exact LW.relist ok_h (next w iw)
set_option maxHeartbeats 1000000 in
theorem case_19 (I : INV h m pat sg cnt kf fI pI q ik) (i : Int) (h0 : 0 ≤ i) (h1 : i + 5 ≤ (L0 : Int)) (hL : L0 ≤ 2560) (next : ∀ u : List AC, INVw u → LW b0 L0 xs (zK nm yl_h) room_1 600000 7302250 39 671 819 (lsK i) [] u QL) : LW b0 L0 xs (zK nm yl_h) room_1 600000 7302250 39 671 707 (lsK i) [] h QL := by
  refine LW.relist ok_19 ?_
  refine LW.go 5 (pc' := 712) rfl ?_
  refine LW.sld (pn := 713) rfl rfl hL (by omega) (by omega) ?_
  refine LW.go 4 (pc' := 717) rfl ?_
  refine LW.sld (pn := 718) rfl rfl hL (by omega) (by omega) ?_
  refine LW.go 4 (pc' := 722) rfl ?_
  refine LW.sld (pn := 723) rfl rfl hL (by omega) (by omega) ?_
  refine LW.callP (pn := 726) rfl rfl mlL_94 I.2.1.1 (pr_sign I ((xs (i + 1).toNat).toInt) ((xs (i + 2).toNat).toInt) ((xs (i + 3).toNat).toInt) (rng_of _) (rng_of _) (rng_of _)) rfl rfl ⟨Nat.le_of_ble_eq_true rfl, Nat.le_of_ble_eq_true rfl⟩ ⟨Nat.le_of_ble_eq_true rfl, Nat.le_of_ble_eq_true rfl⟩ ?_
  intro a u fs Qm e29 hM hQ
  refine LW.go 5 (pc' := 731) rfl ?_
  refine LW.sld (pn := 732) rfl rfl hL (by omega) (by omega) ?_
  refine LW.go 4 (pc' := 736) rfl ?_
  refine LW.sld (pn := 737) rfl rfl hL (by omega) (by omega) ?_
  refine LW.go 4 (pc' := 741) rfl ?_
  refine LW.sld (pn := 742) rfl rfl hL (by omega) (by omega) ?_
  refine LW.callM (pn := 745) rfl rfl mlL_97 e29 hM hQ rfl rfl ⟨Nat.le_of_ble_eq_true rfl, Nat.le_of_ble_eq_true rfl⟩ ⟨Nat.le_of_ble_eq_true rfl, Nat.le_of_ble_eq_true rfl⟩ ?_
  intro w iw
  refine LW.same (tgt := 819) rfl (by decide) ?_
  exact LW.relist ok_h (next w iw)
set_option maxHeartbeats 1000000 in
theorem case_20 (I : INV h m pat sg cnt kf fI pI q ik) (i : Int) (h0 : 0 ≤ i) (h1 : i + 5 ≤ (L0 : Int)) (hL : L0 ≤ 2560) (next : ∀ u : List AC, INVw u → LW b0 L0 xs (zK nm yl_h) room_1 600000 7302250 39 671 819 (lsK i) [] u QL) : LW b0 L0 xs (zK nm yl_h) room_1 600000 7302250 39 671 750 (lsK i) [] h QL := by
  refine LW.relist ok_20 ?_
  refine LW.go 5 (pc' := 755) rfl ?_
  refine LW.sld (pn := 756) rfl rfl hL (by omega) (by omega) ?_
  refine LW.callP (pn := 759) rfl rfl mlL_98 I.2.1.1 (pr_image I ((xs (i + 1).toNat).toInt) (rng_of _)) rfl rfl ⟨Nat.le_of_ble_eq_true rfl, Nat.le_of_ble_eq_true rfl⟩ ⟨Nat.le_of_ble_eq_true rfl, Nat.le_of_ble_eq_true rfl⟩ ?_
  intro a u fs Qm e29 hM hQ
  refine LW.go 5 (pc' := 764) rfl ?_
  refine LW.sld (pn := 765) rfl rfl hL (by omega) (by omega) ?_
  refine LW.callM (pn := 768) rfl rfl mlL_101 e29 hM hQ rfl rfl ⟨Nat.le_of_ble_eq_true rfl, Nat.le_of_ble_eq_true rfl⟩ ⟨Nat.le_of_ble_eq_true rfl, Nat.le_of_ble_eq_true rfl⟩ ?_
  intro w iw
  refine LW.same (tgt := 819) rfl (by decide) ?_
  exact LW.relist ok_h (next w iw)
set_option maxHeartbeats 1000000 in
theorem case_21 (I : INV h m pat sg cnt kf fI pI q ik) (i : Int) (h0 : 0 ≤ i) (h1 : i + 5 ≤ (L0 : Int)) (hL : L0 ≤ 2560) (next : ∀ u : List AC, INVw u → LW b0 L0 xs (zK nm yl_h) room_1 600000 7302250 39 671 819 (lsK i) [] u QL) : LW b0 L0 xs (zK nm yl_h) room_1 600000 7302250 39 671 773 (lsK i) [] h QL := by
  refine LW.relist ok_21 ?_
  refine LW.go 5 (pc' := 778) rfl ?_
  refine LW.sld (pn := 779) rfl rfl hL (by omega) (by omega) ?_
  refine LW.callP (pn := 782) rfl rfl mlL_102 I.2.1.1 (pr_restore I ((xs (i + 1).toNat).toInt) (rng_of _)) rfl rfl ⟨Nat.le_of_ble_eq_true rfl, Nat.le_of_ble_eq_true rfl⟩ ⟨Nat.le_of_ble_eq_true rfl, Nat.le_of_ble_eq_true rfl⟩ ?_
  intro a u fs Qm e29 hM hQ
  refine LW.go 5 (pc' := 787) rfl ?_
  refine LW.sld (pn := 788) rfl rfl hL (by omega) (by omega) ?_
  refine LW.callM (pn := 791) rfl rfl mlL_105 e29 hM hQ rfl rfl ⟨Nat.le_of_ble_eq_true rfl, Nat.le_of_ble_eq_true rfl⟩ ⟨Nat.le_of_ble_eq_true rfl, Nat.le_of_ble_eq_true rfl⟩ ?_
  intro w iw
  refine LW.same (tgt := 819) rfl (by decide) ?_
  exact LW.relist ok_h (next w iw)
set_option maxHeartbeats 1000000 in
theorem case_22 (I : INV h m pat sg cnt kf fI pI q ik) (i : Int) (h0 : 0 ≤ i) (h1 : i + 5 ≤ (L0 : Int)) (hL : L0 ≤ 2560) (next : ∀ u : List AC, INVw u → LW b0 L0 xs (zK nm yl_h) room_1 600000 7302250 39 671 819 (lsK i) [] u QL) : LW b0 L0 xs (zK nm yl_h) room_1 600000 7302250 39 671 796 (lsK i) [] h QL := by
  refine LW.relist ok_22 ?_
  refine LW.go 5 (pc' := 801) rfl ?_
  refine LW.sld (pn := 802) rfl rfl hL (by omega) (by omega) ?_
  refine LW.callP (pn := 805) rfl rfl mlL_106 I.2.1.1 (pr_told I ((xs (i + 1).toNat).toInt) (rng_of _)) rfl rfl ⟨Nat.le_of_ble_eq_true rfl, Nat.le_of_ble_eq_true rfl⟩ ⟨Nat.le_of_ble_eq_true rfl, Nat.le_of_ble_eq_true rfl⟩ ?_
  intro a u fs Qm e29 hM hQ
  refine LW.go 5 (pc' := 810) rfl ?_
  refine LW.sld (pn := 811) rfl rfl hL (by omega) (by omega) ?_
  refine LW.callM (pn := 814) rfl rfl mlL_109 e29 hM hQ rfl rfl ⟨Nat.le_of_ble_eq_true rfl, Nat.le_of_ble_eq_true rfl⟩ ⟨Nat.le_of_ble_eq_true rfl, Nat.le_of_ble_eq_true rfl⟩ ?_
  intro w iw
  refine LW.same (tgt := 819) rfl (by decide) ?_
  exact LW.relist ok_h (next w iw)
end Cases
