/-! segments of a row: forms of its first tones, in order -/
def gk (f : Nat → Int) (n F : Nat) : Nat → Nat
  | 0 => 0
  | k + 1 => gk f n F k * 16 + (ft f (n : Int) (F : Int) (k : Int)).toNat
def gs (f : Nat → Int) (n F : Nat) : Nat → Nat
  | 0 => 0
  | k + 1 => gs f n F k ||| 2 ^ (ft f (n : Int) (F : Int) (k : Int)).toNat
def sK (f : Nat → Int) (n F : Nat) : Nat := gk f n F n
def sS (f : Nat → Int) (n F : Nat) : Nat := gs f n F n
theorem gs_lt (f : Nat → Int) (n F : Nat) : ∀ k, gs f n F k < 4096
  | 0 => Nat.zero_lt_succ _
  | k + 1 => Nat.or_lt_two_pow (n := 12) (gs_lt f n F k) (pow12 (ft_b _ _ _ _).1 (ft_b _ _ _ _).2)
theorem sS_lt (f : Nat → Int) (n F : Nat) : sS f n F < 4096 := gs_lt f n F n
theorem dg (f : Nat → Int) (n F k : Nat) : (ft f (n : Int) (F : Int) (k : Int)).toNat < 12 := by
  have := ft_b f (n : Int) (F : Int) (k : Int); omega
theorem gk_lt (f : Nat → Int) (n F : Nat) : ∀ k, gk f n F k < 16 ^ k
  | 0 => Nat.zero_lt_one
  | k + 1 => by
    have h1 := gk_lt f n F k
    have h2 := dg f n F k
    have e : gk f n F (k + 1) = gk f n F k * 16 + (ft f (n : Int) (F : Int) (k : Int)).toNat := rfl
    rw [e, Nat.pow_succ]; omega
theorem sK_lt {f : Nat → Int} {n : Nat} (hn : n = 3 ∨ n = 4) (F : Nat) : sK f n F < 65536 := by
  have h := gk_lt f n F n
  unfold sK
  rcases hn with rfl | rfl
  · omega
  · omega
theorem gk_up {f : Nat → Int} {n F G k : Nat} (h : gk f n F k < gk f n G k) : ∀ m, gk f n F (k + m) < gk f n G (k + m)
  | 0 => h
  | m + 1 => by
    have h1 := gk_up h m
    have h2 := dg f n F (k + m)
    have e1 : gk f n F (k + (m + 1)) = gk f n F (k + m) * 16 + (ft f (n : Int) (F : Int) ((k + m : Nat) : Int)).toNat := rfl
    have e2 : gk f n G (k + (m + 1)) = gk f n G (k + m) * 16 + (ft f (n : Int) (G : Int) ((k + m : Nat) : Int)).toNat := rfl
    omega
theorem cpd_gk {f : Nat → Int} {n F G : Nat} : ∀ m k, gk f n F k = gk f n G k → (cpd (fun j => ft f (n : Int) (F : Int) (j : Int)) (fun j => ft f (n : Int) (G : Int) (j : Int)) m k < 0 ↔ gk f n F (k + m) < gk f n G (k + m)) ∧ (cpd (fun j => ft f (n : Int) (F : Int) (j : Int)) (fun j => ft f (n : Int) (G : Int) (j : Int)) m k = 0 ↔ gk f n F (k + m) = gk f n G (k + m))
  | 0, k, h => by
    show ((0 : Int) < 0 ↔ gk f n F k < gk f n G k) ∧ ((0 : Int) = 0 ↔ gk f n F k = gk f n G k)
    rw [h]
    exact ⟨⟨fun q => by omega, fun q => absurd q (Nat.lt_irrefl _)⟩, ⟨fun _ => rfl, fun _ => rfl⟩⟩
  | m + 1, k, h => by
    have e1 : gk f n F (k + 1) = gk f n F k * 16 + (ft f (n : Int) (F : Int) (k : Int)).toNat := rfl
    have e2 : gk f n G (k + 1) = gk f n G k * 16 + (ft f (n : Int) (G : Int) (k : Int)).toNat := rfl
    have b1 := ft_b f (n : Int) (F : Int) (k : Int)
    have b2 := ft_b f (n : Int) (G : Int) (k : Int)
    unfold cpd
    by_cases e : ft f (n : Int) (F : Int) (k : Int) - ft f (n : Int) (G : Int) (k : Int) = 0
    · rw [if_pos e]
      have := cpd_gk m (k + 1) (show gk f n F (k + 1) = gk f n G (k + 1) by omega)
      rw [show k + 1 + m = k + (m + 1) by omega] at this
      exact this
    · rw [if_neg e]
      rcases (show gk f n F (k + 1) < gk f n G (k + 1) ∨ gk f n G (k + 1) < gk f n F (k + 1) by omega) with q | q
      · have w := gk_up q m
        rw [show k + 1 + m = k + (m + 1) by omega] at w
        omega
      · have w := gk_up q m
        rw [show k + 1 + m = k + (m + 1) by omega] at w
        omega
theorem cpG_k (f : Nat → Int) (n F G : Nat) : (cpG f (n : Int) (F : Int) (G : Int) < 0 ↔ sK f n F < sK f n G) ∧ (cpG f (n : Int) (F : Int) (G : Int) = 0 ↔ sK f n F = sK f n G) := by
  have := cpd_gk (f := f) (n := n) (F := F) (G := G) n 0 rfl
  rw [Nat.zero_add] at this
  unfold cpG sK
  rw [Int.toNat_natCast]
  exact this
theorem gk_dn {f : Nat → Int} {n F G k m : Nat} (h : gk f n F (k + m) = gk f n G (k + m)) : gk f n F k = gk f n G k := by
  rcases Nat.lt_trichotomy (gk f n F k) (gk f n G k) with q | q | q
  · have := gk_up q m; omega
  · exact q
  · have := gk_up q m; omega
theorem sS_of {f : Nat → Int} {n F G : Nat} (h : sK f n F = sK f n G) : sS f n F = sS f n G := by
  have key : ∀ k, k ≤ n → gs f n F k = gs f n G k := by
    intro k
    induction k with
    | zero => intro _; rfl
    | succ k ih =>
      intro hk
      have h1 : gk f n F (k + 1) = gk f n G (k + 1) := gk_dn (m := n - (k + 1)) (by rw [show k + 1 + (n - (k + 1)) = n by omega]; exact h)
      have h0 : gk f n F k = gk f n G k := gk_dn (m := 1) h1
      have e1 : gk f n F (k + 1) = gk f n F k * 16 + (ft f (n : Int) (F : Int) (k : Int)).toNat := rfl
      have e2 : gk f n G (k + 1) = gk f n G k * 16 + (ft f (n : Int) (G : Int) (k : Int)).toNat := rfl
      show gs f n F k ||| 2 ^ _ = gs f n G k ||| 2 ^ _
      rw [ih (by omega), show (ft f (n : Int) (F : Int) (k : Int)).toNat = (ft f (n : Int) (G : Int) (k : Int)).toNat by omega]
  exact key n (Nat.le_refl _)
theorem gk_div (f : Nat → Int) (n F k : Nat) : ∀ m, gk f n F (k + m) / 16 ^ m = gk f n F k
  | 0 => by rw [Nat.pow_zero, Nat.div_one]; rfl
  | m + 1 => by
    have h2 := dg f n F (k + m)
    have e : gk f n F (k + (m + 1)) = gk f n F (k + m) * 16 + (ft f (n : Int) (F : Int) ((k + m : Nat) : Int)).toNat := rfl
    rw [Nat.pow_succ, Nat.mul_comm, ← Nat.div_div_eq_div_mul, e, show (gk f n F (k + m) * 16 + (ft f (n : Int) (F : Int) ((k + m : Nat) : Int)).toNat) / 16 = gk f n F (k + m) by omega]
    exact gk_div f n F k m
theorem gk_at {f : Nat → Int} {n F i : Nat} (hi : i < n) : sK f n F / 16 ^ (n - 1 - i) % 16 = (ft f (n : Int) (F : Int) (i : Int)).toNat := by
  have h := gk_div f n F (i + 1) (n - 1 - i)
  rw [show i + 1 + (n - 1 - i) = n by omega] at h
  unfold sK
  rw [h]
  have h2 := dg f n F i
  show (gk f n F i * 16 + (ft f (n : Int) (F : Int) (i : Int)).toNat) % 16 = _
  omega
/-! lists of forms -/
theorem gD_eq {L : List Nat} {j : Nat} (h : j < L.length) : L.getD j 0 = L[j] := by
  rw [List.getD_eq_getElem?_getD, List.getElem?_eq_getElem h]; rfl
theorem fP {S : Nat → Nat} {b F : Nat} {X : List Nat} (q : S F &&& b = 0) : (F :: X).filter (fun G => decide (S G &&& b = 0)) = F :: X.filter (fun G => decide (S G &&& b = 0)) := List.filter_cons_of_pos (p := fun G => decide (S G &&& b = 0)) (decide_eq_true q)
theorem fN {S : Nat → Nat} {b F : Nat} {X : List Nat} (q : ¬ S F &&& b = 0) : (F :: X).filter (fun G => decide (S G &&& b = 0)) = X.filter (fun G => decide (S G &&& b = 0)) := List.filter_cons_of_neg (p := fun G => decide (S G &&& b = 0)) (by rw [decide_eq_false q]; decide)
def insA : List Nat → Nat → Nat → List Nat
  | L, 0, F => F :: L
  | [], _ + 1, F => [F]
  | G :: L, a + 1, F => G :: insA L a F
theorem insA_len (F : Nat) : ∀ (L : List Nat) (a : Nat), (insA L a F).length = L.length + 1
  | L, 0 => by unfold insA; rfl
  | [], _ + 1 => rfl
  | G :: L, a + 1 => by
    show (insA L a F).length + 1 = L.length + 1 + 1
    rw [insA_len F L a]
theorem insA_at (F : Nat) : ∀ (L : List Nat) (a j : Nat), a ≤ L.length → (insA L a F).getD j 0 = if j < a then L.getD j 0 else if j = a then F else L.getD (j - 1) 0
  | L, 0, j, _ => by
    rw [show insA L 0 F = F :: L by unfold insA; rfl, if_neg (Nat.not_lt_zero _)]
    cases j with
    | zero => rfl
    | succ j => rw [if_neg (by omega)]; rfl
  | [], a + 1, j, h => absurd h (by simp)
  | G :: L, a + 1, j, h => by
    show (G :: insA L a F).getD j 0 = _
    cases j with
    | zero => rw [if_pos (by omega)]; rfl
    | succ j =>
      show (insA L a F).getD j 0 = _
      rw [insA_at F L a j (by simpa using h)]
      by_cases q : j < a
      · rw [if_pos q, if_pos (by omega)]; rfl
      · by_cases q2 : j = a
        · rw [if_neg q, if_pos q2, if_neg (by omega), if_pos (by omega)]
        · rw [if_neg q, if_neg q2, if_neg (by omega), if_neg (by omega)]
          cases j with
          | zero => omega
          | succ j => rfl
def insF (f : Nat → Int) (n F : Nat) : List Nat → List Nat
  | [] => [F]
  | G :: L => if sK f n G < sK f n F then G :: insF f n F L else if sK f n G = sK f n F then G :: L else F :: G :: L
def srt (f : Nat → Int) (n : Nat) (L : List Nat) : Prop := L.Pairwise (fun a b => sK f n a < sK f n b)
theorem insF_at {f : Nat → Int} {n F : Nat} : ∀ {L : List Nat} {a : Nat}, a ≤ L.length → (∀ j, j < a → sK f n (L.getD j 0) < sK f n F) → (a < L.length → ¬ sK f n (L.getD a 0) < sK f n F) → insF f n F L = if a < L.length ∧ sK f n (L.getD a 0) = sK f n F then L else insA L a F
  | [], a, h, _, _ => by
    have : a = 0 := by simpa using h
    subst this
    rw [if_neg (fun q => absurd q.1 (by simp))]
    rfl
  | G :: L, 0, _, _, h2 => by
    have h3 : ¬ sK f n G < sK f n F := h2 (Nat.zero_lt_succ _)
    unfold insF
    rw [if_neg h3]
    by_cases q : sK f n G = sK f n F
    · rw [if_pos q, if_pos ⟨Nat.zero_lt_succ _, q⟩]
    · rw [if_neg q, if_neg (fun w => q w.2)]; unfold insA; rfl
  | G :: L, a + 1, h, h1, h2 => by
    have h3 : sK f n G < sK f n F := h1 0 (Nat.zero_lt_succ _)
    have ih := insF_at (f := f) (n := n) (F := F) (L := L) (a := a) (Nat.le_of_succ_le_succ h) (fun j hj => h1 (j + 1) (Nat.succ_lt_succ hj)) (fun q => h2 (Nat.succ_lt_succ q))
    unfold insF
    rw [if_pos h3, ih]
    by_cases q : a < L.length ∧ sK f n (L.getD a 0) = sK f n F
    · rw [if_pos q, if_pos ⟨Nat.succ_lt_succ q.1, q.2⟩]
    · rw [if_neg q, if_neg (fun w => q ⟨Nat.lt_of_succ_lt_succ w.1, w.2⟩)]; rfl
theorem insF_mem {f : Nat → Int} {n F : Nat} : ∀ {L : List Nat} {x : Nat}, x ∈ insF f n F L → x = F ∨ x ∈ L
  | [], x, h => Or.inl (by simpa [insF] using h)
  | G :: L, x, h => by
    unfold insF at h
    split at h
    · rcases List.mem_cons.mp h with q | q
      · exact Or.inr (by rw [q]; exact List.mem_cons_self)
      · rcases insF_mem q with w | w
        · exact Or.inl w
        · exact Or.inr (List.mem_cons_of_mem _ w)
    · split at h
      · exact Or.inr h
      · rcases List.mem_cons.mp h with q | q
        · exact Or.inl q
        · exact Or.inr q
theorem insF_srt {f : Nat → Int} {n F : Nat} : ∀ {L : List Nat}, srt f n L → srt f n (insF f n F L)
  | [], _ => by unfold insF srt; exact List.pairwise_singleton _ _
  | G :: L, h => by
    obtain ⟨h1, h2⟩ := List.pairwise_cons.mp h
    unfold insF
    split
    · next q =>
      refine List.pairwise_cons.mpr ⟨fun x hx => ?_, insF_srt h2⟩
      rcases insF_mem hx with w | w
      · rw [w]; exact q
      · exact h1 x w
    · split
      · exact h
      · refine List.pairwise_cons.mpr ⟨fun x hx => ?_, h⟩
        rcases List.mem_cons.mp hx with w | w
        · rw [w]; omega
        · have := h1 x w; omega
theorem insF_len {f : Nat → Int} {n F : Nat} : ∀ {L : List Nat}, (insF f n F L).length ≤ L.length + 1
  | [] => Nat.le_refl _
  | G :: L => by
    unfold insF
    split
    · exact Nat.succ_le_succ (insF_len (L := L))
    · split
      · exact Nat.le_succ _
      · exact Nat.le_refl _
theorem srt_at {f : Nat → Int} {n : Nat} : ∀ {L : List Nat}, srt f n L → ∀ {i j : Nat}, i < j → j < L.length → sK f n (L.getD i 0) < sK f n (L.getD j 0)
  | [], _, i, j, _, h => absurd h (Nat.not_lt_zero _)
  | G :: L, hs, i, j, hij, h => by
    obtain ⟨h1, h2⟩ := List.pairwise_cons.mp hs
    cases j with
    | zero => omega
    | succ j =>
      have hj : j < L.length := Nat.lt_of_succ_lt_succ h
      cases i with
      | zero =>
        show sK f n G < sK f n (L.getD j 0)
        refine h1 _ ?_
        rw [gD_eq hj]
        exact List.getElem_mem _
      | succ i => exact srt_at (L := L) h2 (Nat.lt_of_succ_lt_succ hij) hj
def gM (f : Nat → Int) (n : Nat) : Nat → List Nat
  | 0 => []
  | k + 1 => insF f n k (gM f n k)
def gC (f : Nat → Int) (n b : Nat) : Nat → List Nat
  | 0 => []
  | k + 1 => if sS f n k &&& b = 0 then insF f n k (gC f n b k) else gC f n b k
theorem gM_srt (f : Nat → Int) (n : Nat) : ∀ k, srt f n (gM f n k)
  | 0 => List.Pairwise.nil
  | k + 1 => insF_srt (gM_srt f n k)
theorem gC_srt (f : Nat → Int) (n b : Nat) : ∀ k, srt f n (gC f n b k)
  | 0 => List.Pairwise.nil
  | k + 1 => by
    unfold gC
    split
    · exact insF_srt (gC_srt f n b k)
    · exact gC_srt f n b k
theorem gM_len (f : Nat → Int) (n : Nat) : ∀ k, (gM f n k).length ≤ k
  | 0 => Nat.le_refl _
  | k + 1 => Nat.le_trans insF_len (Nat.succ_le_succ (gM_len f n k))
theorem gC_len (f : Nat → Int) (n b : Nat) : ∀ k, (gC f n b k).length ≤ k
  | 0 => Nat.le_refl _
  | k + 1 => by
    unfold gC
    split
    · exact Nat.le_trans insF_len (Nat.succ_le_succ (gC_len f n b k))
    · exact Nat.le_trans (gC_len f n b k) (Nat.le_succ _)
theorem gM_mem (f : Nat → Int) (n : Nat) : ∀ k x, x ∈ gM f n k → x < k
  | 0, x, h => by cases h
  | k + 1, x, h => by
    rcases insF_mem h with q | q
    · omega
    · have := gM_mem f n k x q; omega
theorem gD_lt {L : List Nat} {m : Nat} (h : ∀ x ∈ L, x < m) {j : Nat} (hj : j < L.length) : L.getD j 0 < m := by
  rw [gD_eq hj]
  exact h _ (List.getElem_mem _)
theorem insF_flt {f : Nat → Int} {n F : Nat} (b : Nat) : ∀ {L : List Nat}, srt f n L → (insF f n F L).filter (fun G => decide (sS f n G &&& b = 0)) = if sS f n F &&& b = 0 then insF f n F (L.filter (fun G => decide (sS f n G &&& b = 0))) else L.filter (fun G => decide (sS f n G &&& b = 0))
  | [], _ => by
    show List.filter _ [F] = _
    by_cases q : sS f n F &&& b = 0
    · rw [if_pos q, fP (S := sS f n) q]; rfl
    · rw [if_neg q, fN (S := sS f n) q]
  | G :: L, h => by
    obtain ⟨h1, h2⟩ := List.pairwise_cons.mp h
    have ih := insF_flt (F := F) b h2
    rw [show insF f n F (G :: L) = if sK f n G < sK f n F then G :: insF f n F L else if sK f n G = sK f n F then G :: L else F :: G :: L from rfl]
    split
    · next q =>
      by_cases g : sS f n G &&& b = 0
      · rw [fP (S := sS f n) g, ih, fP (S := sS f n) g]
        by_cases p : sS f n F &&& b = 0
        · rw [if_pos p, if_pos p]
          show _ = if sK f n G < sK f n F then _ else _
          rw [if_pos q]
        · rw [if_neg p, if_neg p]
      · rw [fN (S := sS f n) g, ih, fN (S := sS f n) g]
    · next q =>
      split
      · next q2 =>
        have e := sS_of q2
        by_cases g : sS f n G &&& b = 0
        · rw [if_pos (by rw [← e]; exact g), fP (S := sS f n) g]
          show _ = if sK f n G < sK f n F then _ else if sK f n G = sK f n F then _ else _
          rw [if_neg q, if_pos q2]
        · rw [if_neg (by rw [← e]; exact g)]
      · next q2 =>
        have hbig : ∀ X : List Nat, (∀ x ∈ X, sK f n F < sK f n x) → insF f n F X = F :: X := by
          intro X hX
          cases X with
          | nil => rfl
          | cons x X =>
            have := hX x List.mem_cons_self
            show (if sK f n x < sK f n F then _ else if sK f n x = sK f n F then _ else _) = _
            rw [if_neg (by omega), if_neg (by omega)]
        have hall : ∀ x ∈ (G :: L).filter (fun G => decide (sS f n G &&& b = 0)), sK f n F < sK f n x := by
          intro x hx
          have hx := (List.mem_filter.mp hx).1
          rcases List.mem_cons.mp hx with w | w
          · rw [w]; omega
          · have := h1 x w; omega
        by_cases p : sS f n F &&& b = 0
        · rw [if_pos p, fP (S := sS f n) p, hbig _ hall]
        · rw [if_neg p, fN (S := sS f n) p]
theorem gC_eq (f : Nat → Int) (n b : Nat) : ∀ k, gC f n b k = (gM f n k).filter (fun G => decide (sS f n G &&& b = 0))
  | 0 => rfl
  | k + 1 => by
    show (if sS f n k &&& b = 0 then insF f n k (gC f n b k) else gC f n b k) = (insF f n k (gM f n k)).filter _
    rw [insF_flt b (gM_srt f n k), gC_eq f n b k]
/-! rows made of segments -/
def chs (S : Nat → Nat) (E : Nat → List (List Nat)) (u : Nat) : List Nat → List (List Nat)
  | [] => []
  | F :: X => (if S F &&& u = 0 then (E (u ||| S F)).map (fun y => F :: y) else []) ++ chs S E u X
def en (S : Nat → Nat) (L : List Nat) : Nat → Nat → List (List Nat)
  | 0, _ => [[]]
  | m + 1, u => chs S (en S L m) u L
theorem and_sub {x u s : Nat} (h : x &&& (u ||| s) = 0) : x &&& u = 0 := by
  rw [Nat.and_or_distrib_left] at h
  have := Nat.left_le_or (n := x &&& u) (m := x &&& s)
  omega
theorem en_flt {S : Nat → Nat} {b : Nat} {L : List Nat} : ∀ m u, (∀ F, S F &&& u = 0 → S F &&& b = 0) → en S (L.filter (fun F => decide (S F &&& b = 0))) m u = en S L m u
  | 0, _, _ => rfl
  | m + 1, u, h => by
    have key : ∀ X : List Nat, chs S (en S (L.filter (fun F => decide (S F &&& b = 0))) m) u (X.filter (fun F => decide (S F &&& b = 0))) = chs S (en S L m) u X := by
      intro X
      induction X with
      | nil => rfl
      | cons F X ih =>
        by_cases q : S F &&& b = 0
        · rw [fP q]
          unfold chs
          rw [ih, en_flt m (u ||| S F) (fun G hG => h G (and_sub hG))]
        · rw [fN q, ih]
          show _ = (if S F &&& u = 0 then _ else _) ++ chs S (en S L m) u X
          rw [if_neg (fun w => q (h F w)), List.nil_append]
    exact key L
theorem chs_len {S : Nat → Nat} {E : Nat → List (List Nat)} {B : Nat} (hE : ∀ u, (E u).length ≤ B) (u : Nat) : ∀ X, (chs S E u X).length ≤ X.length * B
  | [] => Nat.zero_le _
  | F :: X => by
    have ih := chs_len (S := S) hE u X
    have h1 := hE (u ||| S F)
    show ((if S F &&& u = 0 then _ else _) ++ chs S E u X).length ≤ (X.length + 1) * B
    rw [List.length_append, Nat.succ_mul]
    split
    · rw [List.length_map]; omega
    · rw [List.length_nil]; omega
theorem en_len (S : Nat → Nat) (L : List Nat) : ∀ m u, (en S L m u).length ≤ L.length ^ m
  | 0, _ => Nat.le_refl _
  | m + 1, u => by
    rw [Nat.pow_succ, Nat.mul_comm]
    exact chs_len (en_len S L m) u L
/-- ways of one segment, and of the first k -/
def wy (S : Nat → Nat) (E : Nat → List (List Nat)) (u F : Nat) : Nat := if S F &&& u = 0 then (E (u ||| S F)).length else 0
theorem chs_app (S : Nat → Nat) (E : Nat → List (List Nat)) (u : Nat) (Y : List Nat) : ∀ X, chs S E u (X ++ Y) = chs S E u X ++ chs S E u Y
  | [] => rfl
  | F :: X => by
    show _ ++ chs S E u (X ++ Y) = (_ ++ chs S E u X) ++ chs S E u Y
    rw [chs_app S E u Y X, List.append_assoc]
theorem chs_take (S : Nat → Nat) (E : Nat → List (List Nat)) (u : Nat) {L : List Nat} {k : Nat} (hk : k < L.length) : (chs S E u (L.take (k + 1))).length = (chs S E u (L.take k)).length + wy S E u (L.getD k 0) := by
  rw [List.take_succ_eq_append_getElem hk, chs_app, List.length_append, gD_eq hk]
  congr 1
  show ((if S L[k] &&& u = 0 then _ else _) ++ []).length = _
  unfold wy
  rw [List.append_nil]
  split
  · rw [List.length_map]
  · rfl
theorem chs_drop (S : Nat → Nat) (E : Nat → List (List Nat)) (u : Nat) {L : List Nat} {k : Nat} (hk : k < L.length) : chs S E u (L.drop k) = (if S (L.getD k 0) &&& u = 0 then (E (u ||| S (L.getD k 0))).map (fun y => L.getD k 0 :: y) else []) ++ chs S E u (L.drop (k + 1)) := by
  rw [List.drop_eq_getElem_cons hk, gD_eq hk]
  rfl
/-- the i-th lies behind this segment, or is of it -/
theorem chs_lt {S : Nat → Nat} {E : Nat → List (List Nat)} {u : Nat} {L : List Nat} {k i : Nat} {x : List Nat} (hk : k < L.length) (hi : i < wy S E u (L.getD k 0)) (h : (chs S E u (L.drop k))[i]? = some x) : ∃ y, x = L.getD k 0 :: y ∧ (E (u ||| S (L.getD k 0)))[i]? = some y ∧ S (L.getD k 0) &&& u = 0 := by
  rw [chs_drop S E u hk] at h
  unfold wy at hi
  by_cases q : S (L.getD k 0) &&& u = 0
  · rw [if_pos q] at h hi
    rw [List.getElem?_append_left (by rw [List.length_map]; exact hi), List.getElem?_map] at h
    obtain ⟨y, h1, h2⟩ := Option.map_eq_some_iff.mp h
    exact ⟨y, h2.symm, h1, q⟩
  · rw [if_neg q] at hi; omega
theorem chs_ge {S : Nat → Nat} {E : Nat → List (List Nat)} {u : Nat} {L : List Nat} {k i : Nat} {x : List Nat} (hk : k < L.length) (hi : wy S E u (L.getD k 0) ≤ i) (h : (chs S E u (L.drop k))[i]? = some x) : (chs S E u (L.drop (k + 1)))[i - wy S E u (L.getD k 0)]? = some x := by
  rw [chs_drop S E u hk] at h
  have e : (if S (L.getD k 0) &&& u = 0 then (E (u ||| S (L.getD k 0))).map (fun y => L.getD k 0 :: y) else []).length = wy S E u (L.getD k 0) := by
    unfold wy
    split
    · rw [List.length_map]
    · rfl
  rw [List.getElem?_append_right (by rw [e]; exact hi), e] at h
  exact h
/-- a tone of a row made: behind the first segment -/
def tv (f : Nat → Int) (n : Nat) (x : List Nat) (q : Nat) : Int := ft f (n : Int) ((x.getD (q / n) 0 : Nat) : Int) ((q % n : Nat) : Int)
theorem tv_0 {f : Nat → Int} {n F q : Nat} {y : List Nat} (h : q < n) : tv f n (F :: y) q = ft f (n : Int) (F : Int) (q : Int) := by
  unfold tv
  rw [Nat.div_eq_of_lt h, Nat.mod_eq_of_lt h]
  rfl
theorem tv_s {f : Nat → Int} {n F q : Nat} {y : List Nat} (h0 : 0 < n) (h : n ≤ q) : tv f n (F :: y) q = tv f n y (q - n) := by
  unfold tv
  rw [Nat.div_eq_sub_div h0 h, Nat.mod_eq_sub_mod h]
  rfl
def EN (f : Nat → Int) (n : Nat) : List (List Nat) := en (sS f n) (gM f n 48) (12 / n - 1) (fs0 f n)
def V_mk (f : Nat → Int) (n : Nat) (i p : Int) : Int := if i = -1 then ((EN f n).length : Int) else if 0 ≤ i ∧ i < (EN f n).length then (if p < n then f p.toNat else tv f n ((EN f n).getD i.toNat []) (p.toNat - n)) else -6
def V_making (m : Nat → Int) (r N i p : Int) : Int := if 0 ≤ r ∧ r < 4 then (if (N = 3 ∨ N = 4) ∧ (0 ≤ p ∧ p < 12) ∧ ¬ (i = -1 ∧ ¬ p = 0) then V_mk (rwm m r) N.toNat i p else -2) else -1
theorem fst_fs0 {f : Nat → Int} (hf : tn f) : ∀ n, n ≤ 12 → fst12 f 0 0 n = fs0 f n
  | 0, _ => rfl
  | n + 1, h => by
    have hb := hf n (by omega)
    have e : ft f 12 0 (0 + (n : Int)) = f n := by
      unfold ft px mv
      rw [if_neg (by decide), if_neg (by decide), Int.zero_add, Int.zero_add, Int.toNat_natCast]
      omega
    show fst12 f 0 0 n ||| 2 ^ (ft f 12 0 (0 + (n : Int))).toNat = fs0 f n ||| 2 ^ (f n).toNat
    rw [fst_fs0 hf n (by omega), e]
theorem fs0_lt {f : Nat → Int} (hf : tn f) : ∀ n, n ≤ 12 → fs0 f n < 4096
  | 0, _ => Nat.zero_lt_succ _
  | n + 1, h => Nat.or_lt_two_pow (n := 12) (fs0_lt hf n (by omega)) (pow12 (hf n (by omega)).1 (hf n (by omega)).2)
/-! the walk over all choices -/
def mu (S : Nat → Nat) (L : List Nat) (b : Nat) (c : Nat → Int) : Nat → Nat
  | 0 => b
  | D + 1 => mu S L b c D ||| S (L.getD (c D).toNat 0)
def pr (L : List Nat) (c : Nat → Int) : Nat → List Nat
  | 0 => []
  | D + 1 => pr L c D ++ [L.getD (c D).toNat 0]
def rm (S : Nat → Nat) (L : List Nat) (b q : Nat) (c : Nat → Int) : Nat → List (List Nat)
  | 0 => []
  | D + 1 => (chs S (en S L (q - D)) (mu S L b c D) (L.drop (c D + 1).toNat)).map (fun y => pr L c D ++ y) ++ rm S L b q c D
theorem mu_c {S : Nat → Nat} {L : List Nat} {b : Nat} {c c' : Nat → Int} : ∀ {D : Nat}, (∀ j, j < D → c j = c' j) → mu S L b c D = mu S L b c' D
  | 0, _ => rfl
  | D + 1, h => by
    unfold mu
    rw [mu_c (fun j hj => h j (by omega)), h D (by omega)]
theorem pr_c {L : List Nat} {c c' : Nat → Int} : ∀ {D : Nat}, (∀ j, j < D → c j = c' j) → pr L c D = pr L c' D
  | 0, _ => rfl
  | D + 1, h => by
    unfold pr
    rw [pr_c (fun j hj => h j (by omega)), h D (by omega)]
theorem rm_c {S : Nat → Nat} {L : List Nat} {b q : Nat} {c c' : Nat → Int} : ∀ {D : Nat}, (∀ j, j < D → c j = c' j) → rm S L b q c D = rm S L b q c' D
  | 0, _ => rfl
  | D + 1, h => by
    unfold rm
    rw [rm_c (fun j hj => h j (by omega)), h D (by omega), mu_c (fun j hj => h j (by omega)), pr_c (fun j hj => h j (by omega))]
theorem pr_at {L : List Nat} {c : Nat → Int} : ∀ {D j : Nat}, j < D → (pr L c D).getD j 0 = L.getD (c j).toNat 0 := by
  have hl : ∀ D, (pr L c D).length = D := by
    intro D
    induction D with
    | zero => rfl
    | succ D ih => unfold pr; rw [List.length_append, ih]; rfl
  intro D
  induction D with
  | zero => intro j h; omega
  | succ D ih =>
    intro j h
    unfold pr
    by_cases q : j < D
    · rw [← ih q, List.getD_eq_getElem?_getD, List.getElem?_append_left (by rw [hl]; exact q), ← List.getD_eq_getElem?_getD]
    · have : j = D := by omega
      subst this
      rw [List.getD_eq_getElem?_getD, List.getElem?_append_right (by rw [hl]; exact Nat.le_refl _), hl, Nat.sub_self]
      rfl
theorem up_at (c : Nat → Int) (D : Nat) (v : Int) : up c D v D = v := if_pos rfl
theorem up_lt (c : Nat → Int) {D j : Nat} (v : Int) (h : j < D) : up c D v j = c j := if_neg (by omega)
section DFS
variable {S : Nat → Nat} {L : List Nat} {b q : Nat} {c : Nat → Int} {D : Nat}
theorem rm_end (h : (c D + 1).toNat = L.length) : rm S L b q c (D + 1) = rm S L b q c D := by
  show List.map _ (chs S (en S L (q - D)) (mu S L b c D) (L.drop (c D + 1).toNat)) ++ _ = _
  rw [h, List.drop_length]
  rfl
theorem rm_unf (v : Int) (h0 : 0 ≤ v) : rm S L b q (up c D v) (D + 1) = (chs S (en S L (q - D)) (mu S L b c D) (L.drop (v.toNat + 1))).map (fun y => pr L c D ++ y) ++ rm S L b q c D := by
  show List.map (fun y => pr L (up c D v) D ++ y) (chs S (en S L (q - D)) (mu S L b (up c D v) D) (L.drop (up c D v D + 1).toNat)) ++ rm S L b q (up c D v) D = _
  rw [up_at, mu_c (c := up c D v) (c' := c) (fun j hj => up_lt c v hj), pr_c (c := up c D v) (c' := c) (fun j hj => up_lt c v hj), rm_c (c := up c D v) (c' := c) (fun j hj => up_lt c v hj), show (v + 1).toNat = v.toNat + 1 by omega]
theorem rm_no (h0 : 0 ≤ c D + 1) (h : (c D + 1).toNat < L.length) (hf : ¬ S (L.getD (c D + 1).toNat 0) &&& mu S L b c D = 0) : rm S L b q c (D + 1) = rm S L b q (up c D (c D + 1)) (D + 1) := by
  rw [rm_unf _ h0]
  show List.map _ (chs S (en S L (q - D)) (mu S L b c D) (L.drop (c D + 1).toNat)) ++ _ = _
  rw [chs_drop _ _ _ h, if_neg hf, List.nil_append]
theorem rm_in (h0 : 0 ≤ c D + 1) (h : (c D + 1).toNat < L.length) (hf : S (L.getD (c D + 1).toNat 0) &&& mu S L b c D = 0) (hq : D < q) : rm S L b q c (D + 1) = rm S L b q (up (up c D (c D + 1)) (D + 1) (-1)) (D + 2) := by
  rw [show rm S L b q (up (up c D (c D + 1)) (D + 1) (-1)) (D + 2) = (chs S (en S L (q - (D + 1))) (mu S L b (up (up c D (c D + 1)) (D + 1) (-1)) (D + 1)) (L.drop (up (up c D (c D + 1)) (D + 1) (-1) (D + 1) + 1).toNat)).map (fun y => pr L (up (up c D (c D + 1)) (D + 1) (-1)) (D + 1) ++ y) ++ rm S L b q (up (up c D (c D + 1)) (D + 1) (-1)) (D + 1) from rfl]
  rw [up_at, rm_c (c := up (up c D (c D + 1)) (D + 1) (-1)) (c' := up c D (c D + 1)) (fun j hj => up_lt _ _ hj), mu_c (c := up (up c D (c D + 1)) (D + 1) (-1)) (c' := up c D (c D + 1)) (fun j hj => up_lt _ _ hj), pr_c (c := up (up c D (c D + 1)) (D + 1) (-1)) (c' := up c D (c D + 1)) (fun j hj => up_lt _ _ hj), rm_unf _ h0]
  show List.map _ (chs S (en S L (q - D)) (mu S L b c D) (L.drop (c D + 1).toNat)) ++ _ = _
  rw [chs_drop _ _ _ h, if_pos hf, List.map_append, List.append_assoc]
  congr 1
  show _ = List.map (fun y => (pr L (up c D (c D + 1)) D ++ [L.getD (up c D (c D + 1) D).toNat 0]) ++ y) (chs S (en S L (q - (D + 1))) (mu S L b (up c D (c D + 1)) D ||| S (L.getD (up c D (c D + 1) D).toNat 0)) (L.drop 0))
  rw [up_at, mu_c (c := up c D (c D + 1)) (c' := c) (fun j hj => up_lt c _ hj), pr_c (c := up c D (c D + 1)) (c' := c) (fun j hj => up_lt c _ hj), List.map_map, show q - D = (q - (D + 1)) + 1 by omega]
  show List.map _ (chs S (en S L (q - (D + 1))) _ L) = _
  rw [List.drop_zero]
  refine List.map_congr_left (fun y _ => ?_)
  show pr L c D ++ (_ :: y) = (pr L c D ++ [_]) ++ y
  rw [List.append_assoc]; rfl
theorem rm_hit (h0 : 0 ≤ c q + 1) (h : (c q + 1).toNat < L.length) (hf : S (L.getD (c q + 1).toNat 0) &&& mu S L b c q = 0) : rm S L b q c (q + 1) = pr L (up c q (c q + 1)) (q + 1) :: rm S L b q (up c q (c q + 1)) (q + 1) := by
  rw [rm_unf _ h0]
  show List.map _ (chs S (en S L (q - q)) (mu S L b c q) (L.drop (c q + 1).toNat)) ++ _ = _
  rw [chs_drop _ _ _ h, if_pos hf, List.map_append, List.append_assoc, Nat.sub_self]
  show (pr L c q ++ [L.getD (c q + 1).toNat 0]) :: _ = _
  rw [show pr L (up c q (c q + 1)) (q + 1) = pr L (up c q (c q + 1)) q ++ [L.getD (up c q (c q + 1) q).toNat 0] from rfl, up_at, pr_c (c := up c q (c q + 1)) (c' := c) (fun j hj => up_lt c _ hj)]
  rfl
theorem rm_start (h : c 0 = -1) : rm S L b q c 1 = en S L (q + 1) b := by
  show List.map _ (chs S (en S L (q - 0)) b (L.drop (c 0 + 1).toNat)) ++ [] = chs S (en S L q) b L
  rw [h, List.append_nil]
  show List.map (fun y => [] ++ y) (chs S (en S L q) b (L.drop 0)) = _
  rw [List.drop_zero]
  exact List.map_id _
end DFS
def msr (M : Nat) (c : Nat → Int) : Nat → Nat
  | 0 => 0
  | D + 1 => msr M c D + ((M : Int) - c D).toNat * 50 ^ (3 - D)
theorem msr_c {M : Nat} {c c' : Nat → Int} : ∀ {D : Nat}, (∀ j, j < D → c j = c' j) → msr M c D = msr M c' D
  | 0, _ => rfl
  | D + 1, h => by
    unfold msr
    rw [msr_c (fun j hj => h j (by omega)), h D (by omega)]
theorem msr_pop {M : Nat} {c : Nat → Int} {D : Nat} (h : c D < M) : msr M c D < msr M c (D + 1) := by
  show _ < msr M c D + ((M : Int) - c D).toNat * 50 ^ (3 - D)
  have h1 : 0 < 50 ^ (3 - D) := Nat.pow_pos (by decide)
  have h2 : 0 < ((M : Int) - c D).toNat := by omega
  have := Nat.mul_pos h2 h1
  omega
theorem msr_no {M : Nat} {c : Nat → Int} {D : Nat} (h : c D < M) : msr M (up c D (c D + 1)) (D + 1) < msr M c (D + 1) := by
  show msr M (up c D (c D + 1)) D + ((M : Int) - up c D (c D + 1) D).toNat * 50 ^ (3 - D) < msr M c D + ((M : Int) - c D).toNat * 50 ^ (3 - D)
  rw [msr_c (c := up c D (c D + 1)) (c' := c) (fun j hj => up_lt c _ hj), up_at, show ((M : Int) - c D).toNat = ((M : Int) - (c D + 1)).toNat + 1 by omega, Nat.succ_mul]
  have h1 : 0 < 50 ^ (3 - D) := Nat.pow_pos (by decide)
  omega
theorem msr_in {M : Nat} {c : Nat → Int} {D : Nat} (h : c D < M) (hM : M ≤ 48) (hD : D ≤ 1) : msr M (up (up c D (c D + 1)) (D + 1) (-1)) (D + 2) < msr M c (D + 1) := by
  show msr M (up (up c D (c D + 1)) (D + 1) (-1)) (D + 1) + ((M : Int) - up (up c D (c D + 1)) (D + 1) (-1) (D + 1)).toNat * 50 ^ (3 - (D + 1)) < msr M c (D + 1)
  rw [msr_c (c := up (up c D (c D + 1)) (D + 1) (-1)) (c' := up c D (c D + 1)) (fun j hj => up_lt _ _ hj), up_at]
  show msr M (up c D (c D + 1)) D + ((M : Int) - up c D (c D + 1) D).toNat * 50 ^ (3 - D) + _ < msr M c D + ((M : Int) - c D).toNat * 50 ^ (3 - D)
  rw [msr_c (c := up c D (c D + 1)) (c' := c) (fun j hj => up_lt c _ hj), up_at, show ((M : Int) - c D).toNat = ((M : Int) - (c D + 1)).toNat + 1 by omega, Nat.succ_mul, show 3 - D = (3 - (D + 1)) + 1 by omega, Nat.pow_succ]
  have h1 : 0 < 50 ^ (3 - (D + 1)) := Nat.pow_pos (by decide)
  have h2 : ((M : Int) - -1).toNat * 50 ^ (3 - (D + 1)) ≤ 49 * 50 ^ (3 - (D + 1)) := Nat.mul_le_mul_right _ (by omega)
  omega
