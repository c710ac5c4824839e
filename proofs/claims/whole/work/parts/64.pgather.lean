/-! THE PLAN: the stones, on both sides -/
def gC (μ κ : Mem) : Prop := (∀ a, a ≠ 7 → a ≠ 21 → a ≠ 22 → κ a = μ a) ∧ (∀ j, j ≠ 5 → κ 7 j = μ 7 j)
def gR (ν η : Mem) : Prop := (∀ a, a ≠ 300 → a ≠ 320 → η a = ν a) ∧ (∀ j, j ≠ 32 → η 300 j = ν 300 j)
def gI (S : Int) (ν : Mem) (w : Nat → Nat) (m : Nat) (κ η : Mem) : Prop := κ 7 5 = (m : Int) ∧ η 300 32 = (m : Int) ∧ m ≤ 5 ∧ (∀ i, i < m → κ 21 i = 100 + (w i : Int) ∧ κ 22 i = (w i : Int) ∧ η 320 i = (w i : Int) ∧ (w i : Int) < S ∧ ν 317 (w i) < 5) ∧ (∀ j, κ 21 j < 100 + S)
theorem e_gather {μ ν : Mem} (hs : Isite2 μ ν) : ∀ (d n n' k m : Nat) (w : Nat → Nat) (κ η : Mem), (k : Int) + (d : Int) = μ 6 6 → d < n → d < n' → gC μ κ → gR ν η → gI (μ 6 6) ν w m κ η → ∃ (r : Int) (m' : Nat) (w' : Nat → Nat) (κ' η' : Mem), f_X1_gatherStones_7 n (k : Int) κ = some (r, κ') ∧ gC μ κ' ∧ gR ν η' ∧ (∀ j, κ' 21 j < 100 + μ 6 6) ∧ ((r = 0 ∧ f_X11_plan_7 n' (k : Int) η = some (-1, η')) ∨ (r = 1 ∧ gI (μ 6 6) ν w' m' κ' η' ∧ ∃ n'', f_X11_plan_7 n' (k : Int) η = f_X11_plan_7 (n'' + 1) (μ 6 6) η'))
  | 0, n + 1, n' + 1, k, m, w, κ, η, h1, h2, h3, h4, h5, h6 => by
    refine ⟨1, m, w, κ, η, ?_, h4, h5, h6.2.2.2.2, Or.inr ⟨rfl, h6, n', ?_⟩⟩
    · have e66 : κ 6 6 = μ 6 6 := by rw [h4.1 6 (by decide) (by decide) (by decide)]
      rw [f_X1_gatherStones_7_e, if_pos (by omega)]
    · rw [show (k : Int) = μ 6 6 by omega]
  | d + 1, n + 1, n' + 1, k, m, w, κ, η, h1, h2, h3, h4, h5, h6 => by
    have hN := sN_of hs
    have n0 := sN_n hN
    have hk : (k : Int) < μ 6 6 := by omega
    obtain ⟨s0, s1, s2, s3, s4, s5, s6, s7, s8, s9, s10, s11, s12, s13, s14⟩ := sN_s hN k hk
    have e6 : κ 6 = μ 6 := h4.1 6 (by decide) (by decide) (by decide)
    have e20 : κ 20 = μ 20 := h4.1 20 (by decide) (by decide) (by decide)
    have e90 : κ 90 = μ 90 := h4.1 90 (by decide) (by decide) (by decide)
    have e900 : κ 90 0 = μ 90 0 := by rw [e90]
    have ek : κ (100 + k) = μ (100 + k) := h4.1 _ (by omega) (by omega) (by omega)
    have r317 : η 317 = ν 317 := h5.1 317 (by decide) (by decide)
    have r302 : η 302 = ν 302 := h5.1 302 (by decide) (by decide)
    have r2 : η 300 2 = ν 300 2 := h5.2 2 (by decide)
    have r26 : η 300 26 = ν 300 26 := h5.2 26 (by decide)
    have hsa : f_X3_stoneAt κ (k : Int) = some (100 + (k : Int), κ) := by
      unfold f_X3_stoneAt
      rw [if_neg (by omega), e6, if_pos hk, if_pos (by omega), Int.toNat_natCast, e20, s0]
    have hdn : f_X4_isDone κ (100 + (k : Int)) = some (b2i (5 ≤ ν 317 k), κ) := by
      unfold f_X4_isDone
      rw [if_pos (by omega), tn100, ek, s3]
      by_cases c5 : ν 317 k = 5
      · rw [if_pos c5, b2i_t (by omega)]
      · by_cases c6 : ν 317 k = 6
        · rw [if_neg c5, if_pos c6, b2i_t (by omega)]
        · rw [if_neg c5, if_neg c6, b2i_f (by omega)]
    rw [f_X1_gatherStones_7_e, e6, if_neg (by omega), hsa, bd_some, if_neg (by omega), if_pos (by omega), hdn, bd_some]
    have rr : f_X11_plan_7 (n' + 1) (k : Int) η = (if 5 ≤ (ν 317 k) then (f_X11_plan_7 n' ((k : Int) + 1) η) else (if (η 300 32) = 5 then (some ((-1), η)) else (bd (f_X11_worker η (k : Int)) fun r21 μ22 => if r21 = (-1) then (if 0 ≤ (μ22 300 32) ∧ (μ22 300 32) < 5 then lm (up μ22 320 (μ22 300 32).toNat (k : Int)) fun μ28 => if inR ((μ28 300 32) + 1) then lm (up μ28 300 32 ((μ28 300 32) + 1)) fun μ32 => if inR ((k : Int) + 1) then (f_X11_plan_7 n' ((k : Int) + 1) μ32) else none else none else none) else (some ((-1), μ22))))) := by
      rw [f_X11_plan_7_e, if_neg (by omega), if_pos (by omega), Int.toNat_natCast, r317, if_pos (show inR ((k : Int) + 1) by omega)]
    by_cases c5 : 5 ≤ ν 317 k
    · obtain ⟨r, m', w', κ', η', q1, q2⟩ := e_gather hs d n n' (k + 1) m w κ η (by omega) (by omega) (by omega) h4 h5 h6
      rw [show ((k + 1 : Nat) : Int) = (k : Int) + 1 by omega] at q1 q2
      refine ⟨r, m', w', κ', η', ?_, ?_⟩
      · rw [b2i_t c5, if_neg (by decide), if_pos (by omega), q1]
      · rw [rr, if_pos c5]
        exact q2
    rw [b2i_f c5, if_pos rfl, if_pos (by omega), tn100, ek]
    have hwk : firstW (η 302) (η 300 2) (k : Int) (μ (100 + k) 3) := by
      rw [r302, r2, n0.1]
      have w1 := (sN_w hN).1
      by_cases c : μ (100 + k) 3 = -1
      · refine Or.inl ⟨c, fun j hj e => ?_⟩
        have := (w1 k j hk hj).mpr e
        omega
      · refine Or.inr ⟨by omega, by omega, ?_, fun j hj e => ?_⟩
        · exact (w1 k (μ (100 + k) 3).toNat hk (by omega)).mp (by omega)
        · have := (w1 k j hk (by omega)).mpr e
          omega
    have k1 := e_worker (by omega) (by omega) hwk
    clear hwk
    obtain ⟨g1, g2, g3, g4, g5⟩ := h6
    by_cases cw : μ (100 + k) 3 = -1 ∧ m < 5
    case neg =>
      refine ⟨0, m, w, κ, η, ?_, h4, h5, g5, Or.inl ⟨rfl, ?_⟩⟩
      · by_cases c1 : μ (100 + k) 3 = -1
        · rw [if_pos c1, if_neg (by omega)]
        · rw [if_neg c1]
      · rw [rr, if_neg c5]
        by_cases c1 : η 300 32 = 5
        · rw [if_pos c1]
        · rw [if_neg c1, k1, bd_some, if_neg (by omega)]
    have hm0 : (κ 7 5).toNat = m := by omega
    have hm1 : (η 300 32).toNat = m := by omega
    obtain ⟨r, m', w', κ', η', q1, q2⟩ := e_gather hs d n n' (k + 1) (m + 1) (upN w m k) (up (up (up κ 21 m (100 + (k : Int))) 22 m (k : Int)) 7 5 ((m : Int) + 1)) (up (up η 320 m (k : Int)) 300 32 ((m : Int) + 1)) (by omega) (by omega) (by omega) ⟨fun a a1 a2 a3 => by simp (disch := omega) only [bd_some, lm_e, if_pos, if_neg, up_ne, up_at, upf_same, upf_ne, reduceIte, or_true, true_or, Int.reduceToNat, Int.toNat_natCast, tn100, tn200]; exact h4.1 a a1 a2 a3, fun j hj => by simp (disch := omega) only [bd_some, lm_e, if_pos, if_neg, up_ne, up_at, upf_same, upf_ne, reduceIte, or_true, true_or, Int.reduceToNat, Int.toNat_natCast, tn100, tn200]; exact h4.2 j hj⟩ ⟨fun a a1 a2 => by simp (disch := omega) only [bd_some, lm_e, if_pos, if_neg, up_ne, up_at, upf_same, upf_ne, reduceIte, or_true, true_or, Int.reduceToNat, Int.toNat_natCast, tn100, tn200]; exact h5.1 a a1 a2, fun j hj => by simp (disch := omega) only [bd_some, lm_e, if_pos, if_neg, up_ne, up_at, upf_same, upf_ne, reduceIte, or_true, true_or, Int.reduceToNat, Int.toNat_natCast, tn100, tn200]; exact h5.2 j hj⟩ ⟨by simp (disch := omega) only [bd_some, lm_e, if_pos, if_neg, up_ne, up_at, upf_same, upf_ne, reduceIte, or_true, true_or, Int.reduceToNat, Int.toNat_natCast, tn100, tn200]; omega, by simp (disch := omega) only [bd_some, lm_e, if_pos, if_neg, up_ne, up_at, upf_same, upf_ne, reduceIte, or_true, true_or, Int.reduceToNat, Int.toNat_natCast, tn100, tn200]; omega, by omega, fun i hi => by
      by_cases e : i = m
      · subst e
        rw [upN_same]
        simp (disch := omega) only [bd_some, lm_e, if_pos, if_neg, up_ne, up_at, upf_same, upf_ne, reduceIte, or_true, true_or, Int.reduceToNat, Int.toNat_natCast, tn100, tn200]
        exact ⟨trivial, trivial, trivial, hk, by omega⟩
      · rw [upN_ne e]
        simp (disch := omega) only [bd_some, lm_e, if_pos, if_neg, up_ne, up_at, upf_same, upf_ne, reduceIte, or_true, true_or, Int.reduceToNat, Int.toNat_natCast, tn100, tn200]
        exact g4 i (by omega), fun j => by
      by_cases e : j = m
      · subst e
        simp (disch := omega) only [bd_some, lm_e, if_pos, if_neg, up_ne, up_at, upf_same, upf_ne, reduceIte, or_true, true_or, Int.reduceToNat, Int.toNat_natCast, tn100, tn200]
        omega
      · simp (disch := omega) only [bd_some, lm_e, if_pos, if_neg, up_ne, up_at, upf_same, upf_ne, reduceIte, or_true, true_or, Int.reduceToNat, Int.toNat_natCast, tn100, tn200]
        exact g5 j⟩
    rw [show ((k + 1 : Nat) : Int) = (k : Int) + 1 by omega] at q1 q2
    refine ⟨r, m', w', κ', η', ?_, ?_⟩
    · rw [if_pos cw.1, if_pos (by omega), if_pos (by omega), lm_e, hm0]
      simp (disch := omega) only [g1, bd_some, lm_e, if_pos, if_neg, up_ne, up_at, upf_same, upf_ne, reduceIte, or_true, true_or, Int.reduceToNat, Int.toNat_natCast, tn100, tn200]
      exact q1
    · rw [rr, if_neg c5, if_neg (by omega), k1, bd_some, if_pos cw.1, if_pos (by omega), lm_e, hm1]
      have e1 : up η 320 m (k : Int) 300 32 = (m : Int) := by simp (disch := omega) only [bd_some, lm_e, if_pos, if_neg, up_ne, up_at, upf_same, upf_ne, reduceIte, or_true, true_or, Int.reduceToNat, Int.toNat_natCast, tn100, tn200]; exact g2
      rw [e1, if_pos (by omega), lm_e, if_pos (by omega)]
      exact q2
/-! masks, once more -/
theorem msk_sub {a w : Int} (h0 : 0 ≤ a) (h1 : a < 2147483648) (k0 : 0 ≤ w) (k1 : w < 2147483648) : zand a (zxor w (-1)) = 0 ↔ ∀ j, mskP a j → mskP w j := by
  have e : zand a (zxor w (-1)) = ((a.toNat &&& (w.toNat ^^^ 4294967295) : Nat) : Int) := by
    unfold zand zxor
    rw [zI_of]
    refine toInt_nat ?_ (Nat.lt_of_le_of_lt Nat.and_le_left (by omega))
    rw [Int32.toBitVec_and, BitVec.toNat_and, Int32.toBitVec_xor, BitVec.toNat_xor, zI_nat h0 h1, zI_nat k0 k1, show (zI (-1)).toBitVec.toNat = 4294967295 by decide +kernel]
  rw [e]
  have hb : ∀ j, (a.toNat &&& (w.toNat ^^^ 4294967295)).testBit j = (a.toNat.testBit j && !(w.toNat.testBit j)) := by
    intro j
    rw [Nat.testBit_and, Nat.testBit_xor, show (4294967295 : Nat) = 2 ^ 32 - 1 from rfl, Nat.testBit_two_pow_sub_one]
    by_cases hj : j < 32
    · simp [hj]
    · have hz : a.toNat.testBit j = false := Nat.testBit_lt_two_pow (Nat.lt_of_lt_of_le (show a.toNat < 2 ^ 32 by omega) (Nat.pow_le_pow_right (by decide) (by omega)))
      rw [hz]
      simp
  unfold mskP
  constructor
  · intro h j hj
    have h3 : a.toNat &&& (w.toNat ^^^ 4294967295) = 0 := by
      generalize a.toNat &&& (w.toNat ^^^ 4294967295) = z at h ⊢
      omega
    have := hb j
    rw [h3, Nat.zero_testBit, hj] at this
    cases hw : w.toNat.testBit j with
    | true => rfl
    | false => rw [hw] at this; exact absurd this (by decide)
  · intro h
    have h3 : a.toNat &&& (w.toNat ^^^ 4294967295) = 0 := by
      apply Nat.eq_of_testBit_eq
      intro j
      rw [hb j, Nat.zero_testBit]
      cases ha : a.toNat.testBit j with
      | false => rfl
      | true => rw [h j ha]; rfl
    rw [h3]; rfl
/-! preparing -/
def fP5 (μ κ : Mem) : Prop := ∀ a, a ≠ 24 → a ≠ 25 → a ≠ 29 → a ≠ 30 → ¬ (40 ≤ a ∧ a < 45) → κ a = μ a
theorem fP5_tr {a b c : Mem} (h : fP5 a b) (k : fP5 b c) : fP5 a c := fun x h1 h2 h3 h4 h5 => (k x h1 h2 h3 h4 h5).trans (h x h1 h2 h3 h4 h5)
section PP
variable {ν : Mem} {w : Nat → Nat} {n : Nat} {t : Nat → Int} {G hi now : Int}
/-- what is prepared of the first i -/
def pI (ν : Mem) (t : Nat → Int) (G hi : Int) (w : Nat → Nat) (n i : Nat) (κ : Mem) : Prop := ∀ i', i' < i → κ 24 i' = (if ν 317 (w i') ≤ 3 then ν 316 (w i') + 1 else 0) ∧ κ 29 i' = -1 ∧ (0 ≤ κ 25 i' ∧ κ 25 i' < 2147483648 ∧ ∀ j, mskP (κ 25 i') j ↔ j < n ∧ ν 316 (w j) < ν 316 (w i')) ∧ ∀ g, g < 6 → κ (40 + i') g = leadV ν t G hi (w i') g
theorem tn40' (n : Nat) : (40 + (n : Int)).toNat = 40 + n := by omega
theorem e_prep128 {k29 : Int → Mem → Option (Int × Mem)} {κb : Mem} (hs : Isite2 κb ν) (ht : Itab (κb 17) (ν 312)) {i k : Nat} (hi5 : i < 5) (hk : (k : Int) < κb 6 6) : ∀ (e m g : Nat) (κ : Mem), g + e = 6 → e < m → fP5 κb κ → (∀ g', g' < g → κ (40 + i) g' = leadV ν (κb 17) (κb 6 5) (κb 6 8) k g') → ∃ κ', f_X1_prepareWorks_128 k29 m (i : Int) (100 + (k : Int)) (g : Int) κ = k29 ((i : Int) + 1) κ' ∧ (∀ a, a ≠ 40 + i → κ' a = κ a) ∧ (∀ g', g' < 6 → κ' (40 + i) g' = leadV ν (κb 17) (κb 6 5) (κb 6 8) k g')
  | 0, m + 1, g, κ, h1, h2, h3, h4 => by
    refine ⟨κ, ?_, fun _ _ => rfl, fun g' hg' => h4 g' (by omega)⟩
    rw [f_X1_prepareWorks_128_e, if_pos (by omega), if_pos (by omega)]
  | e + 1, m + 1, g, κ, h1, h2, h3, h4 => by
    have hs1 : Isite2 κ ν := Isite2_fr hs (fun a ha => by unfold sC at ha; exact h3 a (by omega) (by omega) (by omega) (by omega) (by omega)) (fun _ _ => rfl) rfl rfl rfl rfl rfl
    have e6 : κ 6 = κb 6 := h3 6 (by decide) (by decide) (by decide) (by decide) (by decide)
    have e17 : κ 17 = κb 17 := h3 17 (by decide) (by decide) (by decide) (by decide) (by decide)
    obtain ⟨x, x1, x2⟩ := c_leadOf (μ := κ) hs1 (by rw [e17]; exact ht) (k := k) (by rw [e6]; exact hk) (g := g) (by omega)
    rw [e17, e6] at x2
    obtain ⟨κ', q1, q2, q3⟩ := e_prep128 (k29 := k29) hs ht hi5 hk e m (g + 1) (up κ (40 + i) g (leadV ν (κb 17) (κb 6 5) (κb 6 8) k g)) (by omega) (by omega) (fun a a1 a2 a3 a4 a5 => by rw [up_ne (by omega)]; exact h3 a a1 a2 a3 a4 a5) (fun g' hg' => by
      by_cases eg : g' = g
      · subst eg; rw [up_at, upf_same]
      · rw [up_at, upf_ne eg]; exact h4 g' (by omega))
    refine ⟨κ', ?_, fun a ha => by rw [q2 a ha, up_ne ha], q3⟩
    rw [f_X1_prepareWorks_128_e, if_neg (by omega), if_pos (by omega), x1, bd_some, x2, bd_some, if_pos (by omega), lm_e, if_pos (by omega)]
    simp only [Int.toNat_natCast, tn40']
    rw [show (g : Int) + 1 = ((g + 1 : Nat) : Int) by omega, q1]
theorem e_prep84 {k29 : Int → Mem → Option (Int × Mem)} {κb : Mem} (hs : Isite2 κb ν) {i : Nat} (hi5 : i < n) (hn5 : n ≤ 5) (h75 : κb 7 5 = (n : Int)) (h21 : ∀ j, j < n → κb 21 j = 100 + (w j : Int) ∧ (w j : Int) < κb 6 6) : ∀ (e m j : Nat) (κ : Mem), j + e = n → e < m → fP5 κb κ → (0 ≤ κ 25 i ∧ κ 25 i < 2147483648) → (∀ j', mskP (κ 25 i) j' ↔ j' < j ∧ ν 316 (w j') < ν 316 (w i)) → ∃ κ', f_X1_prepareWorks_84 k29 m (i : Int) (100 + (w i : Int)) (j : Int) κ = f_X1_prepareWorks_128 k29 64 (i : Int) (100 + (w i : Int)) 0 κ' ∧ (∀ a, a ≠ 25 → κ' a = κ a) ∧ (∀ x, x ≠ i → κ' 25 x = κ 25 x) ∧ (0 ≤ κ' 25 i ∧ κ' 25 i < 2147483648) ∧ (∀ j', mskP (κ' 25 i) j' ↔ j' < n ∧ ν 316 (w j') < ν 316 (w i))
  | 0, m + 1, j, κ, h1, h2, h3, h4, h5 => by
    have e7 : κ 7 = κb 7 := h3 7 (by decide) (by decide) (by decide) (by decide) (by decide)
    refine ⟨κ, ?_, fun _ _ => rfl, fun _ _ => rfl, h4, by rw [show n = j by omega]; exact h5⟩
    rw [f_X1_prepareWorks_84_e, e7, if_pos (by omega)]
  | e + 1, m + 1, j, κ, h1, h2, h3, h4, h5 => by
    have hN := sN_of hs
    have n0 := sN_n hN
    have e7 : κ 7 = κb 7 := h3 7 (by decide) (by decide) (by decide) (by decide) (by decide)
    have e21 : κ 21 = κb 21 := h3 21 (by decide) (by decide) (by decide) (by decide) (by decide)
    have e90 : κ 90 = κb 90 := h3 90 (by decide) (by decide) (by decide) (by decide) (by decide)
    have e900 : κ 90 0 = κb 90 0 := by rw [e90]
    obtain ⟨a1, a2⟩ := h21 j (by omega)
    obtain ⟨b1, b2⟩ := h21 i hi5
    obtain ⟨-, -, sj, -⟩ := sN_s hN (w j) a2
    obtain ⟨-, -, si, -⟩ := sN_s hN (w i) b2
    have ej : κ (100 + w j) = κb (100 + w j) := h3 _ (by omega) (by omega) (by omega) (by omega) (by omega)
    have ei : κ (100 + w i) = κb (100 + w i) := h3 _ (by omega) (by omega) (by omega) (by omega) (by omega)
    rw [f_X1_prepareWorks_84_e, e7, if_neg (by omega), if_pos (by omega)]
    simp only [Int.toNat_natCast, e21, a1, tn100]
    rw [if_pos (by omega), if_pos (by omega), ej, ei, sj, si]
    by_cases c : ν 316 (w i) ≤ ν 316 (w j)
    · obtain ⟨κ', q1, q2⟩ := e_prep84 (k29 := k29) hs hi5 hn5 h75 h21 e m (j + 1) κ (by omega) (by omega) h3 h4 (fun j' => by
        rw [h5 j']
        constructor
        · rintro ⟨x1, x2⟩; exact ⟨by omega, x2⟩
        · rintro ⟨x1, x2⟩
          by_cases z : j' = j
          · rw [z] at x2; omega
          · exact ⟨by omega, x2⟩)
      refine ⟨κ', ?_, q2⟩
      rw [if_pos c, if_pos (by omega), show (j : Int) + 1 = ((j + 1 : Nat) : Int) by omega, q1]
    · obtain ⟨s1, s2, s3⟩ := msk_set h4.1 h4.2 (show j < 31 by omega)
      obtain ⟨κ', q1, q2, q3, q4, q5⟩ := e_prep84 (k29 := k29) hs hi5 hn5 h75 h21 e m (j + 1) (up κ 25 i (zor (κ 25 i) (zshl 1 (j : Int)))) (by omega) (by omega) (fun a a1 a2 a3 a4 a5 => by rw [up_ne a2]; exact h3 a a1 a2 a3 a4 a5) (by rw [up_at, upf_same]; exact ⟨s1, s2⟩) (fun j' => by
        rw [up_at, upf_same, s3 j', h5 j']
        constructor
        · rintro (⟨x1, x2⟩ | x)
          · exact ⟨by omega, x2⟩
          · rw [x]; exact ⟨by omega, by omega⟩
        · rintro ⟨x1, x2⟩
          by_cases z : j' = j
          · exact Or.inr z
          · exact Or.inl ⟨by omega, x2⟩)
      refine ⟨κ', ?_, fun a ha => by rw [q2 a ha, up_ne ha], fun x hx => by rw [q3 x hx, up_at, upf_ne hx], q4, q5⟩
      rw [if_neg c, if_pos (by omega), lm_e, if_pos (by omega), show (j : Int) + 1 = ((j + 1 : Nat) : Int) by omega, q1]
theorem e_prep29 {κb : Mem} (hs : Isite2 κb ν) (ht : Itab (κb 17) (ν 312)) (hn5 : n ≤ 5) (h75 : κb 7 5 = (n : Int)) (h21 : ∀ j, j < n → κb 21 j = 100 + (w j : Int) ∧ (w j : Int) < κb 6 6) : ∀ (e m i : Nat) (κ : Mem), i + e = n → e < m → fP5 κb κ → pI ν (κb 17) (κb 6 5) (κb 6 8) w n i κ → ∃ κ', f_X1_prepareWorks_29 m (i : Int) κ = some (0, κ') ∧ fP5 κb κ' ∧ pI ν (κb 17) (κb 6 5) (κb 6 8) w n n κ' ∧ κ' 30 = κ 30
  | 0, m + 1, i, κ, h1, h2, h3, h4 => by
    have e7 : κ 7 = κb 7 := h3 7 (by decide) (by decide) (by decide) (by decide) (by decide)
    refine ⟨κ, ?_, h3, by rw [show n = i by omega] at h4 ⊢; exact h4, rfl⟩
    rw [f_X1_prepareWorks_29_e, e7, if_pos (by omega)]
  | e + 1, m + 1, i, κ, h1, h2, h3, h4 => by
    have hN := sN_of hs
    have n0 := sN_n hN
    have e7 : κ 7 = κb 7 := h3 7 (by decide) (by decide) (by decide) (by decide) (by decide)
    have e21 : κ 21 = κb 21 := h3 21 (by decide) (by decide) (by decide) (by decide) (by decide)
    have e90 : κ 90 = κb 90 := h3 90 (by decide) (by decide) (by decide) (by decide) (by decide)
    have e900 : κ 90 0 = κb 90 0 := by rw [e90]
    obtain ⟨b1, b2⟩ := h21 i (by omega)
    obtain ⟨s0, s1, s2, s3, s4, s5, s6, s7, s8, s9, s10, s11, s12, s13, s14⟩ := sN_s hN (w i) b2
    have ei : κ (100 + w i) = κb (100 + w i) := h3 _ (by omega) (by omega) (by omega) (by omega) (by omega)
    rw [f_X1_prepareWorks_29_e, e7, if_neg (by omega), if_pos (by omega)]
    simp only [Int.toNat_natCast, e21, b1, tn100]
    rw [if_pos (by omega), ei, s3, s2]
    have go : ∀ z : Int, z = (if ν 317 (w i) ≤ 3 then ν 316 (w i) + 1 else 0) → ∃ κ', f_X1_prepareWorks_67 (f_X1_prepareWorks_29 m) (i : Int) (100 + (w i : Int)) z (i : Int) κ = some (0, κ') ∧ fP5 κb κ' ∧ pI ν (κb 17) (κb 6 5) (κb 6 8) w n n κ' ∧ κ' 30 = κ 30 := by
      intro z hz
      have m0 : ∀ i, ¬ mskP 0 i := fun i => by unfold mskP; simp
      obtain ⟨κ1, q1, q2, q3, q4, q5⟩ := e_prep84 (k29 := f_X1_prepareWorks_29 m) (w := w) hs (i := i) (by omega) hn5 h75 h21 n 64 0 (up (up (up κ 24 i z) 29 i (-1)) 25 i 0) (by omega) (by omega) (fun a a1 a2 a3 a4 a5 => by rw [up_ne a2, up_ne a3, up_ne a1]; exact h3 a a1 a2 a3 a4 a5) (by simp (disch := omega) only [bd_some, lm_e, if_pos, if_neg, up_ne, up_at, upf_same, upf_ne, reduceIte, or_true, true_or, Int.reduceToNat, Int.toNat_natCast, tn100, tn200]; decide) (fun j' => by simp (disch := omega) only [bd_some, lm_e, if_pos, if_neg, up_ne, up_at, upf_same, upf_ne, reduceIte, or_true, true_or, Int.reduceToNat, Int.toNat_natCast, tn100, tn200]; exact ⟨fun x => absurd x (m0 j'), fun x => by omega⟩)
      rw [show ((0 : Nat) : Int) = 0 from rfl] at q1
      have f1 : fP5 κb κ1 := fun a a1 a2 a3 a4 a5 => by rw [q2 a a2, up_ne a2, up_ne a3, up_ne a1]; exact h3 a a1 a2 a3 a4 a5
      obtain ⟨κ2, p1, p2, p3⟩ := e_prep128 (k29 := f_X1_prepareWorks_29 m) hs ht (i := i) (k := w i) (by omega) b2 6 64 0 κ1 rfl (by decide) f1 (fun g' hg' => by omega)
      rw [show ((0 : Nat) : Int) = 0 from rfl] at p1
      have f2 : fP5 κb κ2 := fun a a1 a2 a3 a4 a5 => by rw [p2 a (by omega)]; exact f1 a a1 a2 a3 a4 a5
      obtain ⟨κ', r1, r2, r3, r4⟩ := e_prep29 hs ht hn5 h75 h21 e m (i + 1) κ2 (by omega) (by omega) f2 (fun i' hi' => by
        rw [p2 24 (by omega), p2 25 (by omega), p2 29 (by omega), q2 24 (by decide), q2 29 (by decide)]
        by_cases ei' : i' = i
        · subst ei'
          simp (disch := omega) only [bd_some, lm_e, if_pos, if_neg, up_ne, up_at, upf_same, upf_ne, reduceIte, or_true, true_or, Int.reduceToNat, Int.toNat_natCast, tn100, tn200]
          exact ⟨hz, trivial, ⟨q4.1, q4.2, q5⟩, p3⟩
        · rw [q3 i' ei', p2 (40 + i') (by omega), q2 (40 + i') (by omega)]
          simp (disch := omega) only [bd_some, lm_e, if_pos, if_neg, up_ne, up_at, upf_same, upf_ne, reduceIte, or_true, true_or, Int.reduceToNat, Int.toNat_natCast, tn100, tn200]
          exact h4 i' (by omega))
      refine ⟨κ', ?_, r2, r3, ?_⟩
      · unfold f_X1_prepareWorks_67
        rw [if_pos (by omega), Int.toNat_natCast, lm_e, if_pos (by omega), lm_e, lm_e, q1, p1, show (i : Int) + 1 = ((i + 1 : Nat) : Int) by omega, r1]
      · rw [r4, p2 30 (by omega), q2 30 (by decide)]
        simp (disch := omega) only [bd_some, lm_e, if_pos, if_neg, up_ne, up_at, upf_same, upf_ne, reduceIte, or_true, true_or, Int.reduceToNat, Int.toNat_natCast, tn100, tn200]
    by_cases c : 3 < ν 317 (w i)
    · rw [if_pos c]
      exact go 0 (by rw [if_neg (by omega)])
    · rw [if_neg c, if_pos (by omega)]
      exact go (ν 316 (w i) + 1) (by rw [if_pos (by omega)])
theorem e_prep2 {κb : Mem} (hs : Isite2 κb ν) (ht : Itab (κb 17) (ν 312)) (hn5 : n ≤ 5) (h75 : κb 7 5 = (n : Int)) (h21 : ∀ j, j < n → κb 21 j = 100 + (w j : Int) ∧ (w j : Int) < κb 6 6) : ∀ (e m g : Nat) (κ : Mem), g + e = 6 → e < m → fP5 κb κ → (∀ g', g' < g → κ 30 g' = κb 6 9) → ∃ κ', f_X1_prepareWorks_2 m (g : Int) κ = some (0, κ') ∧ fP5 κb κ' ∧ pI ν (κb 17) (κb 6 5) (κb 6 8) w n n κ' ∧ (∀ g', g' < 6 → κ' 30 g' = κb 6 9)
  | 0, m + 1, g, κ, h1, h2, h3, h4 => by
    obtain ⟨κ', r1, r2, r3, r4⟩ := e_prep29 hs ht hn5 h75 h21 n 64 0 κ (by omega) (by omega) h3 (fun i' hi' => by omega)
    rw [show ((0 : Nat) : Int) = 0 from rfl] at r1
    refine ⟨κ', ?_, r2, r3, fun g' hg' => by rw [r4]; exact h4 g' (by omega)⟩
    rw [f_X1_prepareWorks_2_e, if_pos (by omega), r1]
  | e + 1, m + 1, g, κ, h1, h2, h3, h4 => by
    have e6 : κ 6 = κb 6 := h3 6 (by decide) (by decide) (by decide) (by decide) (by decide)
    obtain ⟨κ', q1, q2⟩ := e_prep2 hs ht hn5 h75 h21 e m (g + 1) (up κ 30 g (κb 6 9)) (by omega) (by omega) (fun a a1 a2 a3 a4 a5 => by rw [up_ne a4]; exact h3 a a1 a2 a3 a4 a5) (fun g' hg' => by
      by_cases eg : g' = g
      · subst eg; rw [up_at, upf_same]
      · rw [up_at, upf_ne eg]; exact h4 g' (by omega))
    refine ⟨κ', ?_, q2⟩
    rw [f_X1_prepareWorks_2_e, if_neg (by omega), if_pos (by omega), lm_e, if_pos (by omega), Int.toNat_natCast, e6, show (g : Int) + 1 = ((g + 1 : Nat) : Int) by omega, q1]
end PP
