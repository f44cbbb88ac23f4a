theorem kJ6_265 : Cond.constant RJ6 265 (iI 1431655765) ∈ gtb := gtb_in 285 (by decide +kernel) (by decide +kernel)
theorem kJ6_266 : Cond.constant RJ6 266 (iI 858993459) ∈ gtb := gtb_in 286 (by decide +kernel) (by decide +kernel)
theorem kJ6_267 : Cond.constant RJ6 267 (iI 252645135) ∈ gtb := gtb_in 287 (by decide +kernel) (by decide +kernel)
theorem kJ6_264 : Cond.constant RJ6 264 (iI 65536) ∈ gtb := gtb_in 363 (by decide +kernel) (by decide +kernel)
section Rules
variable {z : ZM} {G : GG} {R : Room} {MC MS k n pc pn : Nat} {ls : List (Nat × AV)} {st : List AV} {h : List AC} {Q : Option Int → List AC → Prop}
def ushG (a b : Int) : Int := ((iI a).toUInt32 >>> ((iI b).toUInt32 &&& Int32.toUInt32 31)).toInt32.toInt
def andG (a b : Int) : Int := (iI a &&& iI b).toInt
theorem AW.iandH {a b : Int} (hf : ftch z.2.2.2.2 pc = some (.iand, 1)) (hn : pc + 1 = pn)
    (kk : AW z G R MC MS k n pn ls (vi (andG a b) :: st) h Q) : AW z G R MC MS k n pc ls (vi b :: vi a :: st) h Q := AW.iandG hf hn kk
theorem AW.iushrG {a b : Int} (hf : ftch z.2.2.2.2 pc = some (.iushr, 1)) (hn : pc + 1 = pn)
    (kk : AW z G R MC MS k n pn ls (vi (ushG a b) :: st) h Q) : AW z G R MC MS k n pc ls (vi b :: vi a :: st) h Q := by
  subst hn
  refine AW.fr ?_ kk
  intro p l e s m args below meth c ρ H locs lsA Zf C hl K
  obtain ⟨hx, hb', -, -, -, hL, -, -, -⟩ := C
  refine lv_iushr hx hb' (okL_at hL hf).1 (v := iI (ushG a b)) ?_ (K lsA hl)
  exact (iI_of _).symm
end Rules
theorem andG_rng (a b : Int) : rng (andG a b) := rng_of _
theorem ushG_rng (a b : Int) : rng (ushG a b) := rng_of _
def bcx (a : Int) : Int :=
  let b := a - andG (ushG a 1) 1431655765
  let c := andG b 858993459 + andG (ushG b 2) 858993459
  let e := andG (c + ushG c 4) 252645135
  let f := e + ushG e 8
  let g := f + ushG f 16
  andG g 63
theorem bc_64 : ∀ a : Nat, a < 64 → ∀ b : Nat, b < 64 → bcx ((64 * a + b : Nat) : Int) = ((cntN (fun i => (64 * a + b).testBit i) 12 : Nat) : Int) := by decide +kernel
theorem bc_all (m : Nat) (hm : m < 4096) : bcx (m : Int) = ((cntN (fun i => m.testBit i) 12 : Nat) : Int) := by
  have := bc_64 (m / 64) (by omega) (m % 64) (by omega)
  rwa [Nat.div_add_mod m 64] at this
set_option maxHeartbeats 2000000 in
theorem c_bitCount (d : Nat) (h : List AC) (m : Nat) (hm : m < 4096) : MF zJ6_bitCount_0f7a4 d [vi (m : Int)] h ((cntN (fun i => m.testBit i) 12 : Nat) : Int) h := by
  refine M0.of okJ6_bitCount_0f7a4 (Nat.le_of_ble_eq_true rfl) ?_
  refine AW.go 3 (pc' := 3) rfl ?_
  refine AW.iushrG (pn := 4) rfl rfl ?_
  refine AW.ldcw (pn := 7) rfl rfl kJ6_265 ?_
  refine AW.iandH (pn := 8) rfl rfl ?_
  refine AW.go 3 (pc' := 11) rfl ?_
  refine AW.ldcw (pn := 14) rfl rfl kJ6_266 ?_
  refine AW.iandH (pn := 15) rfl rfl ?_
  refine AW.go 2 (pc' := 17) rfl ?_
  refine AW.iushrG (pn := 18) rfl rfl ?_
  refine AW.ldcw (pn := 21) rfl rfl kJ6_266 ?_
  refine AW.iandH (pn := 22) rfl rfl ?_
  refine AW.go 5 (pc' := 27) rfl ?_
  refine AW.iushrG (pn := 28) rfl rfl ?_
  refine AW.go 1 (pc' := 29) rfl ?_
  refine AW.ldcw (pn := 32) rfl rfl kJ6_267 ?_
  refine AW.iandH (pn := 33) rfl rfl ?_
  refine AW.go 4 (pc' := 38) rfl ?_
  refine AW.iushrG (pn := 39) rfl rfl ?_
  refine AW.go 5 (pc' := 45) rfl ?_
  refine AW.iushrG (pn := 46) rfl rfl ?_
  refine AW.go 4 (pc' := 51) rfl ?_
  refine AW.iandH (pn := 52) rfl rfl ?_
  refine AW.ret rfl rfl (Nat.le_refl _) (Nat.le_refl _) ?_
  exact ⟨congrArg some (bc_all m hm), rfl⟩
def lz (m : Nat) : Nat := cntN (fun t => allN (fun j => m.testBit j) (t + 1)) 13
theorem lz_64 : ∀ a : Nat, a < 64 → ∀ b : Nat, b < 64 → lz (64 * a + b) ≤ 12 ∧ andG (-(-((64 * a + b : Nat) : Int) - 1) - 1) (-((64 * a + b : Nat) : Int) - 1 - 1) = 2 ^ lz (64 * a + b) - 1 ∧ (64 * a + b).testBit (lz (64 * a + b)) = false ∧ allN (fun j => (64 * a + b).testBit j) (lz (64 * a + b)) = true := by decide +kernel
theorem lz_all (m : Nat) (hm : m < 4096) : lz m ≤ 12 ∧ andG (-(-(m : Int) - 1) - 1) (-(m : Int) - 1 - 1) = 2 ^ lz m - 1 ∧ m.testBit (lz m) = false ∧ allN (fun j => m.testBit j) (lz m) = true := by
  have := lz_64 (m / 64) (by omega) (m % 64) (by omega)
  rwa [Nat.div_add_mod m 64] at this
theorem ntz_0 (d : Nat) (h : List AC) (x : Option AV) (Q : Option Int → List AC → Prop) (hq : ∀ a : Int, a = 0 → Q (some a) h) : AW zJ6_numberOfTrailingZeros_0f7a4 Eq (rmd d) 0 0 0 0 8 [(0, vi 0)] [] h Q := by
  refine AW.go 1 (pc' := 9) rfl ?_
  refine AW.br (tgt := 17) (pn := 12) rfl (by decide) rfl ⟨by decide, by decide⟩  (fun c => absurd c (by decide : ¬ ((0:Int) < 0))) (fun c => ?_)
  refine AW.go 2 (pc' := 15) rfl ?_
  refine AW.iand (pn := 16) rfl rfl (by decide) (by decide) ?_
  refine AW.ret rfl rfl (Nat.le_refl _) (Nat.le_refl _) (hq _ ?_)
  decide
theorem ntz_1 (d : Nat) (h : List AC) (x : Option AV) (Q : Option Int → List AC → Prop) (hq : ∀ a : Int, a = 1 → Q (some a) h) : AW zJ6_numberOfTrailingZeros_0f7a4 Eq (rmd d) 0 0 0 0 8 [(0, vi 1)] [] h Q := by
  refine AW.go 1 (pc' := 9) rfl ?_
  refine AW.br (tgt := 17) (pn := 12) rfl (by decide) rfl ⟨by decide, by decide⟩  (fun c => ?_) (fun c => absurd (by decide : (0:Int) < 1) c)
  refine AW.go 3 (pc' := 20) rfl ?_
  refine AW.ldcw (pn := 23) rfl rfl kJ6_264 ?_
  refine AW.bi (tgt := 34) (pn := 26) rfl (by decide) rfl ⟨by decide, by decide⟩ ⟨by decide, by decide⟩ (fun c => ?_) (fun c => absurd (by decide : 1 ≤ (65536 : Int)) c)
  refine AW.go 2 (pc' := 38) rfl ?_
  refine AW.bi (tgt := 49) (pn := 41) rfl (by decide) rfl ⟨by decide, by decide⟩ ⟨by decide, by decide⟩ (fun c => ?_) (fun c => absurd (by decide : 1 ≤ (256 : Int)) c)
  refine AW.go 2 (pc' := 52) rfl ?_
  refine AW.bi (tgt := 62) (pn := 55) rfl (by decide) rfl ⟨by decide, by decide⟩ ⟨by decide, by decide⟩ (fun c => ?_) (fun c => absurd (by decide : 1 ≤ (16 : Int)) c)
  refine AW.go 2 (pc' := 64) rfl ?_
  refine AW.bi (tgt := 74) (pn := 67) rfl (by decide) rfl ⟨by decide, by decide⟩ ⟨by decide, by decide⟩ (fun c => ?_) (fun c => absurd (by decide : 1 ≤ (4 : Int)) c)
  refine AW.go 3 (pc' := 77) rfl ?_
  refine AW.iushr (pn := 78) rfl rfl (by decide) (by decide) (by decide) (by decide) ?_
  refine AW.go 1 (pc' := 79) rfl ?_
  refine AW.ret rfl rfl (Nat.le_refl _) (Nat.le_refl _) (hq _ ?_)
  decide
theorem ntz_2 (d : Nat) (h : List AC) (x : Option AV) (Q : Option Int → List AC → Prop) (hq : ∀ a : Int, a = 2 → Q (some a) h) : AW zJ6_numberOfTrailingZeros_0f7a4 Eq (rmd d) 0 0 0 0 8 [(0, vi 3)] [] h Q := by
  refine AW.go 1 (pc' := 9) rfl ?_
  refine AW.br (tgt := 17) (pn := 12) rfl (by decide) rfl ⟨by decide, by decide⟩  (fun c => ?_) (fun c => absurd (by decide : (0:Int) < 3) c)
  refine AW.go 3 (pc' := 20) rfl ?_
  refine AW.ldcw (pn := 23) rfl rfl kJ6_264 ?_
  refine AW.bi (tgt := 34) (pn := 26) rfl (by decide) rfl ⟨by decide, by decide⟩ ⟨by decide, by decide⟩ (fun c => ?_) (fun c => absurd (by decide : 3 ≤ (65536 : Int)) c)
  refine AW.go 2 (pc' := 38) rfl ?_
  refine AW.bi (tgt := 49) (pn := 41) rfl (by decide) rfl ⟨by decide, by decide⟩ ⟨by decide, by decide⟩ (fun c => ?_) (fun c => absurd (by decide : 3 ≤ (256 : Int)) c)
  refine AW.go 2 (pc' := 52) rfl ?_
  refine AW.bi (tgt := 62) (pn := 55) rfl (by decide) rfl ⟨by decide, by decide⟩ ⟨by decide, by decide⟩ (fun c => ?_) (fun c => absurd (by decide : 3 ≤ (16 : Int)) c)
  refine AW.go 2 (pc' := 64) rfl ?_
  refine AW.bi (tgt := 74) (pn := 67) rfl (by decide) rfl ⟨by decide, by decide⟩ ⟨by decide, by decide⟩ (fun c => ?_) (fun c => absurd (by decide : 3 ≤ (4 : Int)) c)
  refine AW.go 3 (pc' := 77) rfl ?_
  refine AW.iushr (pn := 78) rfl rfl (by decide) (by decide) (by decide) (by decide) ?_
  refine AW.go 1 (pc' := 79) rfl ?_
  refine AW.ret rfl rfl (Nat.le_refl _) (Nat.le_refl _) (hq _ ?_)
  decide
theorem ntz_3 (d : Nat) (h : List AC) (x : Option AV) (Q : Option Int → List AC → Prop) (hq : ∀ a : Int, a = 3 → Q (some a) h) : AW zJ6_numberOfTrailingZeros_0f7a4 Eq (rmd d) 0 0 0 0 8 [(0, vi 7)] [] h Q := by
  refine AW.go 1 (pc' := 9) rfl ?_
  refine AW.br (tgt := 17) (pn := 12) rfl (by decide) rfl ⟨by decide, by decide⟩  (fun c => ?_) (fun c => absurd (by decide : (0:Int) < 7) c)
  refine AW.go 3 (pc' := 20) rfl ?_
  refine AW.ldcw (pn := 23) rfl rfl kJ6_264 ?_
  refine AW.bi (tgt := 34) (pn := 26) rfl (by decide) rfl ⟨by decide, by decide⟩ ⟨by decide, by decide⟩ (fun c => ?_) (fun c => absurd (by decide : 7 ≤ (65536 : Int)) c)
  refine AW.go 2 (pc' := 38) rfl ?_
  refine AW.bi (tgt := 49) (pn := 41) rfl (by decide) rfl ⟨by decide, by decide⟩ ⟨by decide, by decide⟩ (fun c => ?_) (fun c => absurd (by decide : 7 ≤ (256 : Int)) c)
  refine AW.go 2 (pc' := 52) rfl ?_
  refine AW.bi (tgt := 62) (pn := 55) rfl (by decide) rfl ⟨by decide, by decide⟩ ⟨by decide, by decide⟩ (fun c => ?_) (fun c => absurd (by decide : 7 ≤ (16 : Int)) c)
  refine AW.go 2 (pc' := 64) rfl ?_
  refine AW.bi (tgt := 74) (pn := 67) rfl (by decide) rfl ⟨by decide, by decide⟩ ⟨by decide, by decide⟩ (fun c => absurd c (by decide : ¬ (7 ≤ (4 : Int)))) (fun c => ?_)
  refine AW.go 3 (pc' := 72) rfl ?_
  refine AW.iushr (pn := 73) rfl rfl (by decide) (by decide) (by decide) (by decide) ?_
  refine AW.go 4 (pc' := 77) rfl ?_
  refine AW.iushr (pn := 78) rfl rfl (by decide) (by decide) (by decide) (by decide) ?_
  refine AW.go 1 (pc' := 79) rfl ?_
  refine AW.ret rfl rfl (Nat.le_refl _) (Nat.le_refl _) (hq _ ?_)
  decide
theorem ntz_4 (d : Nat) (h : List AC) (x : Option AV) (Q : Option Int → List AC → Prop) (hq : ∀ a : Int, a = 4 → Q (some a) h) : AW zJ6_numberOfTrailingZeros_0f7a4 Eq (rmd d) 0 0 0 0 8 [(0, vi 15)] [] h Q := by
  refine AW.go 1 (pc' := 9) rfl ?_
  refine AW.br (tgt := 17) (pn := 12) rfl (by decide) rfl ⟨by decide, by decide⟩  (fun c => ?_) (fun c => absurd (by decide : (0:Int) < 15) c)
  refine AW.go 3 (pc' := 20) rfl ?_
  refine AW.ldcw (pn := 23) rfl rfl kJ6_264 ?_
  refine AW.bi (tgt := 34) (pn := 26) rfl (by decide) rfl ⟨by decide, by decide⟩ ⟨by decide, by decide⟩ (fun c => ?_) (fun c => absurd (by decide : 15 ≤ (65536 : Int)) c)
  refine AW.go 2 (pc' := 38) rfl ?_
  refine AW.bi (tgt := 49) (pn := 41) rfl (by decide) rfl ⟨by decide, by decide⟩ ⟨by decide, by decide⟩ (fun c => ?_) (fun c => absurd (by decide : 15 ≤ (256 : Int)) c)
  refine AW.go 2 (pc' := 52) rfl ?_
  refine AW.bi (tgt := 62) (pn := 55) rfl (by decide) rfl ⟨by decide, by decide⟩ ⟨by decide, by decide⟩ (fun c => ?_) (fun c => absurd (by decide : 15 ≤ (16 : Int)) c)
  refine AW.go 2 (pc' := 64) rfl ?_
  refine AW.bi (tgt := 74) (pn := 67) rfl (by decide) rfl ⟨by decide, by decide⟩ ⟨by decide, by decide⟩ (fun c => absurd c (by decide : ¬ (15 ≤ (4 : Int)))) (fun c => ?_)
  refine AW.go 3 (pc' := 72) rfl ?_
  refine AW.iushr (pn := 73) rfl rfl (by decide) (by decide) (by decide) (by decide) ?_
  refine AW.go 4 (pc' := 77) rfl ?_
  refine AW.iushr (pn := 78) rfl rfl (by decide) (by decide) (by decide) (by decide) ?_
  refine AW.go 1 (pc' := 79) rfl ?_
  refine AW.ret rfl rfl (Nat.le_refl _) (Nat.le_refl _) (hq _ ?_)
  decide
theorem ntz_5 (d : Nat) (h : List AC) (x : Option AV) (Q : Option Int → List AC → Prop) (hq : ∀ a : Int, a = 5 → Q (some a) h) : AW zJ6_numberOfTrailingZeros_0f7a4 Eq (rmd d) 0 0 0 0 8 [(0, vi 31)] [] h Q := by
  refine AW.go 1 (pc' := 9) rfl ?_
  refine AW.br (tgt := 17) (pn := 12) rfl (by decide) rfl ⟨by decide, by decide⟩  (fun c => ?_) (fun c => absurd (by decide : (0:Int) < 31) c)
  refine AW.go 3 (pc' := 20) rfl ?_
  refine AW.ldcw (pn := 23) rfl rfl kJ6_264 ?_
  refine AW.bi (tgt := 34) (pn := 26) rfl (by decide) rfl ⟨by decide, by decide⟩ ⟨by decide, by decide⟩ (fun c => ?_) (fun c => absurd (by decide : 31 ≤ (65536 : Int)) c)
  refine AW.go 2 (pc' := 38) rfl ?_
  refine AW.bi (tgt := 49) (pn := 41) rfl (by decide) rfl ⟨by decide, by decide⟩ ⟨by decide, by decide⟩ (fun c => ?_) (fun c => absurd (by decide : 31 ≤ (256 : Int)) c)
  refine AW.go 2 (pc' := 52) rfl ?_
  refine AW.bi (tgt := 62) (pn := 55) rfl (by decide) rfl ⟨by decide, by decide⟩ ⟨by decide, by decide⟩ (fun c => absurd c (by decide : ¬ (31 ≤ (16 : Int)))) (fun c => ?_)
  refine AW.go 3 (pc' := 60) rfl ?_
  refine AW.iushr (pn := 61) rfl rfl (by decide) (by decide) (by decide) (by decide) ?_
  refine AW.go 3 (pc' := 64) rfl ?_
  refine AW.bi (tgt := 74) (pn := 67) rfl (by decide) rfl ⟨by decide, by decide⟩ ⟨by decide, by decide⟩ (fun c => ?_) (fun c => absurd (by decide : 1 ≤ (4 : Int)) c)
  refine AW.go 3 (pc' := 77) rfl ?_
  refine AW.iushr (pn := 78) rfl rfl (by decide) (by decide) (by decide) (by decide) ?_
  refine AW.go 1 (pc' := 79) rfl ?_
  refine AW.ret rfl rfl (Nat.le_refl _) (Nat.le_refl _) (hq _ ?_)
  decide
theorem ntz_6 (d : Nat) (h : List AC) (x : Option AV) (Q : Option Int → List AC → Prop) (hq : ∀ a : Int, a = 6 → Q (some a) h) : AW zJ6_numberOfTrailingZeros_0f7a4 Eq (rmd d) 0 0 0 0 8 [(0, vi 63)] [] h Q := by
  refine AW.go 1 (pc' := 9) rfl ?_
  refine AW.br (tgt := 17) (pn := 12) rfl (by decide) rfl ⟨by decide, by decide⟩  (fun c => ?_) (fun c => absurd (by decide : (0:Int) < 63) c)
  refine AW.go 3 (pc' := 20) rfl ?_
  refine AW.ldcw (pn := 23) rfl rfl kJ6_264 ?_
  refine AW.bi (tgt := 34) (pn := 26) rfl (by decide) rfl ⟨by decide, by decide⟩ ⟨by decide, by decide⟩ (fun c => ?_) (fun c => absurd (by decide : 63 ≤ (65536 : Int)) c)
  refine AW.go 2 (pc' := 38) rfl ?_
  refine AW.bi (tgt := 49) (pn := 41) rfl (by decide) rfl ⟨by decide, by decide⟩ ⟨by decide, by decide⟩ (fun c => ?_) (fun c => absurd (by decide : 63 ≤ (256 : Int)) c)
  refine AW.go 2 (pc' := 52) rfl ?_
  refine AW.bi (tgt := 62) (pn := 55) rfl (by decide) rfl ⟨by decide, by decide⟩ ⟨by decide, by decide⟩ (fun c => absurd c (by decide : ¬ (63 ≤ (16 : Int)))) (fun c => ?_)
  refine AW.go 3 (pc' := 60) rfl ?_
  refine AW.iushr (pn := 61) rfl rfl (by decide) (by decide) (by decide) (by decide) ?_
  refine AW.go 3 (pc' := 64) rfl ?_
  refine AW.bi (tgt := 74) (pn := 67) rfl (by decide) rfl ⟨by decide, by decide⟩ ⟨by decide, by decide⟩ (fun c => ?_) (fun c => absurd (by decide : 3 ≤ (4 : Int)) c)
  refine AW.go 3 (pc' := 77) rfl ?_
  refine AW.iushr (pn := 78) rfl rfl (by decide) (by decide) (by decide) (by decide) ?_
  refine AW.go 1 (pc' := 79) rfl ?_
  refine AW.ret rfl rfl (Nat.le_refl _) (Nat.le_refl _) (hq _ ?_)
  decide
theorem ntz_7 (d : Nat) (h : List AC) (x : Option AV) (Q : Option Int → List AC → Prop) (hq : ∀ a : Int, a = 7 → Q (some a) h) : AW zJ6_numberOfTrailingZeros_0f7a4 Eq (rmd d) 0 0 0 0 8 [(0, vi 127)] [] h Q := by
  refine AW.go 1 (pc' := 9) rfl ?_
  refine AW.br (tgt := 17) (pn := 12) rfl (by decide) rfl ⟨by decide, by decide⟩  (fun c => ?_) (fun c => absurd (by decide : (0:Int) < 127) c)
  refine AW.go 3 (pc' := 20) rfl ?_
  refine AW.ldcw (pn := 23) rfl rfl kJ6_264 ?_
  refine AW.bi (tgt := 34) (pn := 26) rfl (by decide) rfl ⟨by decide, by decide⟩ ⟨by decide, by decide⟩ (fun c => ?_) (fun c => absurd (by decide : 127 ≤ (65536 : Int)) c)
  refine AW.go 2 (pc' := 38) rfl ?_
  refine AW.bi (tgt := 49) (pn := 41) rfl (by decide) rfl ⟨by decide, by decide⟩ ⟨by decide, by decide⟩ (fun c => ?_) (fun c => absurd (by decide : 127 ≤ (256 : Int)) c)
  refine AW.go 2 (pc' := 52) rfl ?_
  refine AW.bi (tgt := 62) (pn := 55) rfl (by decide) rfl ⟨by decide, by decide⟩ ⟨by decide, by decide⟩ (fun c => absurd c (by decide : ¬ (127 ≤ (16 : Int)))) (fun c => ?_)
  refine AW.go 3 (pc' := 60) rfl ?_
  refine AW.iushr (pn := 61) rfl rfl (by decide) (by decide) (by decide) (by decide) ?_
  refine AW.go 3 (pc' := 64) rfl ?_
  refine AW.bi (tgt := 74) (pn := 67) rfl (by decide) rfl ⟨by decide, by decide⟩ ⟨by decide, by decide⟩ (fun c => absurd c (by decide : ¬ (7 ≤ (4 : Int)))) (fun c => ?_)
  refine AW.go 3 (pc' := 72) rfl ?_
  refine AW.iushr (pn := 73) rfl rfl (by decide) (by decide) (by decide) (by decide) ?_
  refine AW.go 4 (pc' := 77) rfl ?_
  refine AW.iushr (pn := 78) rfl rfl (by decide) (by decide) (by decide) (by decide) ?_
  refine AW.go 1 (pc' := 79) rfl ?_
  refine AW.ret rfl rfl (Nat.le_refl _) (Nat.le_refl _) (hq _ ?_)
  decide
theorem ntz_8 (d : Nat) (h : List AC) (x : Option AV) (Q : Option Int → List AC → Prop) (hq : ∀ a : Int, a = 8 → Q (some a) h) : AW zJ6_numberOfTrailingZeros_0f7a4 Eq (rmd d) 0 0 0 0 8 [(0, vi 255)] [] h Q := by
  refine AW.go 1 (pc' := 9) rfl ?_
  refine AW.br (tgt := 17) (pn := 12) rfl (by decide) rfl ⟨by decide, by decide⟩  (fun c => ?_) (fun c => absurd (by decide : (0:Int) < 255) c)
  refine AW.go 3 (pc' := 20) rfl ?_
  refine AW.ldcw (pn := 23) rfl rfl kJ6_264 ?_
  refine AW.bi (tgt := 34) (pn := 26) rfl (by decide) rfl ⟨by decide, by decide⟩ ⟨by decide, by decide⟩ (fun c => ?_) (fun c => absurd (by decide : 255 ≤ (65536 : Int)) c)
  refine AW.go 2 (pc' := 38) rfl ?_
  refine AW.bi (tgt := 49) (pn := 41) rfl (by decide) rfl ⟨by decide, by decide⟩ ⟨by decide, by decide⟩ (fun c => ?_) (fun c => absurd (by decide : 255 ≤ (256 : Int)) c)
  refine AW.go 2 (pc' := 52) rfl ?_
  refine AW.bi (tgt := 62) (pn := 55) rfl (by decide) rfl ⟨by decide, by decide⟩ ⟨by decide, by decide⟩ (fun c => absurd c (by decide : ¬ (255 ≤ (16 : Int)))) (fun c => ?_)
  refine AW.go 3 (pc' := 60) rfl ?_
  refine AW.iushr (pn := 61) rfl rfl (by decide) (by decide) (by decide) (by decide) ?_
  refine AW.go 3 (pc' := 64) rfl ?_
  refine AW.bi (tgt := 74) (pn := 67) rfl (by decide) rfl ⟨by decide, by decide⟩ ⟨by decide, by decide⟩ (fun c => absurd c (by decide : ¬ (15 ≤ (4 : Int)))) (fun c => ?_)
  refine AW.go 3 (pc' := 72) rfl ?_
  refine AW.iushr (pn := 73) rfl rfl (by decide) (by decide) (by decide) (by decide) ?_
  refine AW.go 4 (pc' := 77) rfl ?_
  refine AW.iushr (pn := 78) rfl rfl (by decide) (by decide) (by decide) (by decide) ?_
  refine AW.go 1 (pc' := 79) rfl ?_
  refine AW.ret rfl rfl (Nat.le_refl _) (Nat.le_refl _) (hq _ ?_)
  decide
theorem ntz_9 (d : Nat) (h : List AC) (x : Option AV) (Q : Option Int → List AC → Prop) (hq : ∀ a : Int, a = 9 → Q (some a) h) : AW zJ6_numberOfTrailingZeros_0f7a4 Eq (rmd d) 0 0 0 0 8 [(0, vi 511)] [] h Q := by
  refine AW.go 1 (pc' := 9) rfl ?_
  refine AW.br (tgt := 17) (pn := 12) rfl (by decide) rfl ⟨by decide, by decide⟩  (fun c => ?_) (fun c => absurd (by decide : (0:Int) < 511) c)
  refine AW.go 3 (pc' := 20) rfl ?_
  refine AW.ldcw (pn := 23) rfl rfl kJ6_264 ?_
  refine AW.bi (tgt := 34) (pn := 26) rfl (by decide) rfl ⟨by decide, by decide⟩ ⟨by decide, by decide⟩ (fun c => ?_) (fun c => absurd (by decide : 511 ≤ (65536 : Int)) c)
  refine AW.go 2 (pc' := 38) rfl ?_
  refine AW.bi (tgt := 49) (pn := 41) rfl (by decide) rfl ⟨by decide, by decide⟩ ⟨by decide, by decide⟩ (fun c => absurd c (by decide : ¬ (511 ≤ (256 : Int)))) (fun c => ?_)
  refine AW.go 3 (pc' := 47) rfl ?_
  refine AW.iushr (pn := 48) rfl rfl (by decide) (by decide) (by decide) (by decide) ?_
  refine AW.go 3 (pc' := 52) rfl ?_
  refine AW.bi (tgt := 62) (pn := 55) rfl (by decide) rfl ⟨by decide, by decide⟩ ⟨by decide, by decide⟩ (fun c => ?_) (fun c => absurd (by decide : 1 ≤ (16 : Int)) c)
  refine AW.go 2 (pc' := 64) rfl ?_
  refine AW.bi (tgt := 74) (pn := 67) rfl (by decide) rfl ⟨by decide, by decide⟩ ⟨by decide, by decide⟩ (fun c => ?_) (fun c => absurd (by decide : 1 ≤ (4 : Int)) c)
  refine AW.go 3 (pc' := 77) rfl ?_
  refine AW.iushr (pn := 78) rfl rfl (by decide) (by decide) (by decide) (by decide) ?_
  refine AW.go 1 (pc' := 79) rfl ?_
  refine AW.ret rfl rfl (Nat.le_refl _) (Nat.le_refl _) (hq _ ?_)
  decide
theorem ntz_10 (d : Nat) (h : List AC) (x : Option AV) (Q : Option Int → List AC → Prop) (hq : ∀ a : Int, a = 10 → Q (some a) h) : AW zJ6_numberOfTrailingZeros_0f7a4 Eq (rmd d) 0 0 0 0 8 [(0, vi 1023)] [] h Q := by
  refine AW.go 1 (pc' := 9) rfl ?_
  refine AW.br (tgt := 17) (pn := 12) rfl (by decide) rfl ⟨by decide, by decide⟩  (fun c => ?_) (fun c => absurd (by decide : (0:Int) < 1023) c)
  refine AW.go 3 (pc' := 20) rfl ?_
  refine AW.ldcw (pn := 23) rfl rfl kJ6_264 ?_
  refine AW.bi (tgt := 34) (pn := 26) rfl (by decide) rfl ⟨by decide, by decide⟩ ⟨by decide, by decide⟩ (fun c => ?_) (fun c => absurd (by decide : 1023 ≤ (65536 : Int)) c)
  refine AW.go 2 (pc' := 38) rfl ?_
  refine AW.bi (tgt := 49) (pn := 41) rfl (by decide) rfl ⟨by decide, by decide⟩ ⟨by decide, by decide⟩ (fun c => absurd c (by decide : ¬ (1023 ≤ (256 : Int)))) (fun c => ?_)
  refine AW.go 3 (pc' := 47) rfl ?_
  refine AW.iushr (pn := 48) rfl rfl (by decide) (by decide) (by decide) (by decide) ?_
  refine AW.go 3 (pc' := 52) rfl ?_
  refine AW.bi (tgt := 62) (pn := 55) rfl (by decide) rfl ⟨by decide, by decide⟩ ⟨by decide, by decide⟩ (fun c => ?_) (fun c => absurd (by decide : 3 ≤ (16 : Int)) c)
  refine AW.go 2 (pc' := 64) rfl ?_
  refine AW.bi (tgt := 74) (pn := 67) rfl (by decide) rfl ⟨by decide, by decide⟩ ⟨by decide, by decide⟩ (fun c => ?_) (fun c => absurd (by decide : 3 ≤ (4 : Int)) c)
  refine AW.go 3 (pc' := 77) rfl ?_
  refine AW.iushr (pn := 78) rfl rfl (by decide) (by decide) (by decide) (by decide) ?_
  refine AW.go 1 (pc' := 79) rfl ?_
  refine AW.ret rfl rfl (Nat.le_refl _) (Nat.le_refl _) (hq _ ?_)
  decide
theorem ntz_11 (d : Nat) (h : List AC) (x : Option AV) (Q : Option Int → List AC → Prop) (hq : ∀ a : Int, a = 11 → Q (some a) h) : AW zJ6_numberOfTrailingZeros_0f7a4 Eq (rmd d) 0 0 0 0 8 [(0, vi 2047)] [] h Q := by
  refine AW.go 1 (pc' := 9) rfl ?_
  refine AW.br (tgt := 17) (pn := 12) rfl (by decide) rfl ⟨by decide, by decide⟩  (fun c => ?_) (fun c => absurd (by decide : (0:Int) < 2047) c)
  refine AW.go 3 (pc' := 20) rfl ?_
  refine AW.ldcw (pn := 23) rfl rfl kJ6_264 ?_
  refine AW.bi (tgt := 34) (pn := 26) rfl (by decide) rfl ⟨by decide, by decide⟩ ⟨by decide, by decide⟩ (fun c => ?_) (fun c => absurd (by decide : 2047 ≤ (65536 : Int)) c)
  refine AW.go 2 (pc' := 38) rfl ?_
  refine AW.bi (tgt := 49) (pn := 41) rfl (by decide) rfl ⟨by decide, by decide⟩ ⟨by decide, by decide⟩ (fun c => absurd c (by decide : ¬ (2047 ≤ (256 : Int)))) (fun c => ?_)
  refine AW.go 3 (pc' := 47) rfl ?_
  refine AW.iushr (pn := 48) rfl rfl (by decide) (by decide) (by decide) (by decide) ?_
  refine AW.go 3 (pc' := 52) rfl ?_
  refine AW.bi (tgt := 62) (pn := 55) rfl (by decide) rfl ⟨by decide, by decide⟩ ⟨by decide, by decide⟩ (fun c => ?_) (fun c => absurd (by decide : 7 ≤ (16 : Int)) c)
  refine AW.go 2 (pc' := 64) rfl ?_
  refine AW.bi (tgt := 74) (pn := 67) rfl (by decide) rfl ⟨by decide, by decide⟩ ⟨by decide, by decide⟩ (fun c => absurd c (by decide : ¬ (7 ≤ (4 : Int)))) (fun c => ?_)
  refine AW.go 3 (pc' := 72) rfl ?_
  refine AW.iushr (pn := 73) rfl rfl (by decide) (by decide) (by decide) (by decide) ?_
  refine AW.go 4 (pc' := 77) rfl ?_
  refine AW.iushr (pn := 78) rfl rfl (by decide) (by decide) (by decide) (by decide) ?_
  refine AW.go 1 (pc' := 79) rfl ?_
  refine AW.ret rfl rfl (Nat.le_refl _) (Nat.le_refl _) (hq _ ?_)
  decide
theorem ntz_12 (d : Nat) (h : List AC) (x : Option AV) (Q : Option Int → List AC → Prop) (hq : ∀ a : Int, a = 12 → Q (some a) h) : AW zJ6_numberOfTrailingZeros_0f7a4 Eq (rmd d) 0 0 0 0 8 [(0, vi 4095)] [] h Q := by
  refine AW.go 1 (pc' := 9) rfl ?_
  refine AW.br (tgt := 17) (pn := 12) rfl (by decide) rfl ⟨by decide, by decide⟩  (fun c => ?_) (fun c => absurd (by decide : (0:Int) < 4095) c)
  refine AW.go 3 (pc' := 20) rfl ?_
  refine AW.ldcw (pn := 23) rfl rfl kJ6_264 ?_
  refine AW.bi (tgt := 34) (pn := 26) rfl (by decide) rfl ⟨by decide, by decide⟩ ⟨by decide, by decide⟩ (fun c => ?_) (fun c => absurd (by decide : 4095 ≤ (65536 : Int)) c)
  refine AW.go 2 (pc' := 38) rfl ?_
  refine AW.bi (tgt := 49) (pn := 41) rfl (by decide) rfl ⟨by decide, by decide⟩ ⟨by decide, by decide⟩ (fun c => absurd c (by decide : ¬ (4095 ≤ (256 : Int)))) (fun c => ?_)
  refine AW.go 3 (pc' := 47) rfl ?_
  refine AW.iushr (pn := 48) rfl rfl (by decide) (by decide) (by decide) (by decide) ?_
  refine AW.go 3 (pc' := 52) rfl ?_
  refine AW.bi (tgt := 62) (pn := 55) rfl (by decide) rfl ⟨by decide, by decide⟩ ⟨by decide, by decide⟩ (fun c => ?_) (fun c => absurd (by decide : 15 ≤ (16 : Int)) c)
  refine AW.go 2 (pc' := 64) rfl ?_
  refine AW.bi (tgt := 74) (pn := 67) rfl (by decide) rfl ⟨by decide, by decide⟩ ⟨by decide, by decide⟩ (fun c => absurd c (by decide : ¬ (15 ≤ (4 : Int)))) (fun c => ?_)
  refine AW.go 3 (pc' := 72) rfl ?_
  refine AW.iushr (pn := 73) rfl rfl (by decide) (by decide) (by decide) (by decide) ?_
  refine AW.go 4 (pc' := 77) rfl ?_
  refine AW.iushr (pn := 78) rfl rfl (by decide) (by decide) (by decide) (by decide) ?_
  refine AW.go 1 (pc' := 79) rfl ?_
  refine AW.ret rfl rfl (Nat.le_refl _) (Nat.le_refl _) (hq _ ?_)
  decide
set_option maxHeartbeats 2000000 in
theorem c_ntz (d : Nat) (h : List AC) (m : Nat) (hm : m < 4096) : MF zJ6_numberOfTrailingZeros_0f7a4 d [vi (-(m : Int) - 1)] h (lz m : Int) h := by
  refine M0.of okJ6_numberOfTrailingZeros_0f7a4 (Nat.le_of_ble_eq_true rfl) ?_
  obtain ⟨g1, g2, -, -⟩ := lz_all m hm
  refine AW.go 2 (pc' := 2) rfl ?_
  refine AW.inot (pn := 3) rfl rfl ?_
  refine AW.go 3 (pc' := 6) rfl ?_
  refine AW.iandH (pn := 7) rfl rfl ?_
  rw [g2]
  refine AW.go 1 (pc' := 8) rfl ?_
  generalize lz m = t at g1 ⊢
  have hq : ∀ a : Int, a = (t : Int) → (fun v u => v = some (t : Int) ∧ u = h) (some a) h := fun a ha => ⟨congrArg some ha, rfl⟩
  by_cases e0 : t = 0
  · subst e0
    refine AW.lw ?_ (ntz_0 d h none _ hq)
    exact And.intro rfl trivial
  by_cases e1 : t = 1
  · subst e1
    refine AW.lw ?_ (ntz_1 d h none _ hq)
    exact And.intro rfl trivial
  by_cases e2 : t = 2
  · subst e2
    refine AW.lw ?_ (ntz_2 d h none _ hq)
    exact And.intro rfl trivial
  by_cases e3 : t = 3
  · subst e3
    refine AW.lw ?_ (ntz_3 d h none _ hq)
    exact And.intro rfl trivial
  by_cases e4 : t = 4
  · subst e4
    refine AW.lw ?_ (ntz_4 d h none _ hq)
    exact And.intro rfl trivial
  by_cases e5 : t = 5
  · subst e5
    refine AW.lw ?_ (ntz_5 d h none _ hq)
    exact And.intro rfl trivial
  by_cases e6 : t = 6
  · subst e6
    refine AW.lw ?_ (ntz_6 d h none _ hq)
    exact And.intro rfl trivial
  by_cases e7 : t = 7
  · subst e7
    refine AW.lw ?_ (ntz_7 d h none _ hq)
    exact And.intro rfl trivial
  by_cases e8 : t = 8
  · subst e8
    refine AW.lw ?_ (ntz_8 d h none _ hq)
    exact And.intro rfl trivial
  by_cases e9 : t = 9
  · subst e9
    refine AW.lw ?_ (ntz_9 d h none _ hq)
    exact And.intro rfl trivial
  by_cases e10 : t = 10
  · subst e10
    refine AW.lw ?_ (ntz_10 d h none _ hq)
    exact And.intro rfl trivial
  by_cases e11 : t = 11
  · subst e11
    refine AW.lw ?_ (ntz_11 d h none _ hq)
    exact And.intro rfl trivial
  by_cases e12 : t = 12
  · subst e12
    refine AW.lw ?_ (ntz_12 d h none _ hq)
    exact And.intro rfl trivial
  omega
