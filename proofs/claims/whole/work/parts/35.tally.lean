/-! TALLY, END, ISTRUE -/
theorem e_tally {μ : Mem} (a1 a2 a3 a4 : Int) (h1 : 0 ≤ μ 8 5) (h2 : μ 8 5 ≤ 20) : f_X10_tally μ a1 a2 a3 a4 = if μ 8 5 < 20 ∧ 0 ≤ a1 ∧ a1 < 6 ∧ 0 ≤ a4 ∧ a4 ≤ 30 ∧ 0 ≤ a2 ∧ a2 ≤ a3 ∧ a3 ≤ 3000 then some (μ 8 5, up (up (up (up (up μ 32 (μ 8 5).toNat a1) 33 (μ 8 5).toNat a2) 34 (μ 8 5).toNat a3) 35 (μ 8 5).toNat a4) 8 5 (μ 8 5 + 1)) else some (-1, μ) := by
  unfold f_X10_tally f_X8_addTally f_X10_isDay
  by_cases hc : μ 8 5 < 20 ∧ 0 ≤ a1 ∧ a1 < 6 ∧ 0 ≤ a4 ∧ a4 ≤ 30 ∧ 0 ≤ a2 ∧ a2 ≤ a3 ∧ a3 ≤ 3000
  · simp (disch := omega) only [bd_some, lm_e, if_pos, if_neg, up_ne, up_at, upf_same, upf_ne, reduceIte, or_true, true_or]
  · rw [if_neg hc]
    simp (disch := omega) only [bd_some, lm_e, if_pos, if_neg, up_ne, up_at, upf_same, upf_ne, reduceIte, or_true, true_or]
    by_cases c1 : 20 ≤ μ 8 5
    · simp (disch := omega) only [bd_some, lm_e, if_pos, if_neg, up_ne, up_at, upf_same, upf_ne, reduceIte, or_true, true_or]
    by_cases c2 : a1 < 0
    · simp (disch := omega) only [bd_some, lm_e, if_pos, if_neg, up_ne, up_at, upf_same, upf_ne, reduceIte, or_true, true_or]
    by_cases c3 : 6 ≤ a1
    · simp (disch := omega) only [bd_some, lm_e, if_pos, if_neg, up_ne, up_at, upf_same, upf_ne, reduceIte, or_true, true_or]
    by_cases c4 : a4 < 0
    · simp (disch := omega) only [bd_some, lm_e, if_pos, if_neg, up_ne, up_at, upf_same, upf_ne, reduceIte, or_true, true_or]
    by_cases c5 : a4 ≤ 30
    · by_cases c6 : a2 < 0
      · simp (disch := omega) only [bd_some, lm_e, if_pos, if_neg, up_ne, up_at, upf_same, upf_ne, reduceIte, or_true, true_or]
      by_cases c7 : 3000 < a2
      · simp (disch := omega) only [bd_some, lm_e, if_pos, if_neg, up_ne, up_at, upf_same, upf_ne, reduceIte, or_true, true_or]
      by_cases c8 : a3 < 0
      · simp (disch := omega) only [bd_some, lm_e, if_pos, if_neg, up_ne, up_at, upf_same, upf_ne, reduceIte, or_true, true_or]
      by_cases c9 : 3000 < a3
      · simp (disch := omega) only [bd_some, lm_e, if_pos, if_neg, up_ne, up_at, upf_same, upf_ne, reduceIte, or_true, true_or]
      · simp (disch := omega) only [bd_some, lm_e, if_pos, if_neg, up_ne, up_at, upf_same, upf_ne, reduceIte, or_true, true_or]
    · simp (disch := omega) only [bd_some, lm_e, if_pos, if_neg, up_ne, up_at, upf_same, upf_ne, reduceIte, or_true, true_or]
theorem e_tally2 {μ : Mem} (a1 a2 a3 a4 : Int) (h1 : 0 ≤ μ 300 45) (h2 : μ 300 45 ≤ 20) : f_X11_tally μ a1 a2 a3 a4 = if μ 300 45 < 20 ∧ 0 ≤ a1 ∧ a1 < 6 ∧ 0 ≤ a4 ∧ a4 ≤ 30 ∧ 0 ≤ a2 ∧ a2 ≤ a3 ∧ a3 ≤ 3000 then some (μ 300 45, up (up (up (up (up μ 331 (μ 300 45).toNat a1) 332 (μ 300 45).toNat a2) 333 (μ 300 45).toNat a3) 334 (μ 300 45).toNat a4) 300 45 (μ 300 45 + 1)) else some (-1, μ) := by
  unfold f_X11_tally
  by_cases hc : μ 300 45 < 20 ∧ 0 ≤ a1 ∧ a1 < 6 ∧ 0 ≤ a4 ∧ a4 ≤ 30 ∧ 0 ≤ a2 ∧ a2 ≤ a3 ∧ a3 ≤ 3000
  · simp (disch := omega) only [f_in_e, b2i_0, bd_some, lm_e, if_pos, if_neg, up_ne, up_at, upf_same, upf_ne, reduceIte, or_true, true_or]
    rw [show μ 300 45 + 1 - 1 = μ 300 45 by omega]
  · rw [if_neg hc]
    by_cases c1 : μ 300 45 = 20
    · simp (disch := omega) only [bd_some, lm_e, if_pos, if_neg, up_ne, up_at, upf_same, upf_ne, reduceIte, or_true, true_or]
    by_cases c2 : 0 ≤ a1 ∧ a1 ≤ 5
    · by_cases c3 : 0 ≤ a2 ∧ a2 ≤ 3000
      · by_cases c4 : a2 ≤ a3 ∧ a3 ≤ 3000
        · simp (disch := omega) only [f_in_e, b2i_0, bd_some, lm_e, if_pos, if_neg, up_ne, up_at, upf_same, upf_ne, reduceIte, or_true, true_or]
        · simp (disch := omega) only [f_in_e, b2i_0, bd_some, lm_e, if_pos, if_neg, up_ne, up_at, upf_same, upf_ne, reduceIte, or_true, true_or]
      · simp (disch := omega) only [f_in_e, b2i_0, bd_some, lm_e, if_pos, if_neg, up_ne, up_at, upf_same, upf_ne, reduceIte, or_true, true_or]
    · simp (disch := omega) only [f_in_e, b2i_0, bd_some, lm_e, if_pos, if_neg, up_ne, up_at, upf_same, upf_ne, reduceIte, or_true, true_or]
theorem m_tally {μ : Mem} (h : Inv μ) (a1 a2 a3 a4 : Int) : Same0 Inv (fun μ => f_X10_tally μ a1 a2 a3 a4) (fun μ => f_X11_tally μ a1 a2 a3 a4) μ := by
  have hI := h
  obtain ⟨hb, hsp, hr, ht, htab, hs, hrf, hp, hta, ⟨q1, q2, -⟩⟩ := h
  have hta0 := hta
  obtain ⟨b1, b2, b3, b7⟩ := hta0
  refine same0_of ?_
  show wp (f_X10_tally μ a1 a2 a3 a4) _
  rw [e_tally a1 a2 a3 a4 b2 b3]
  by_cases hc : μ 8 5 < 20 ∧ 0 ≤ a1 ∧ a1 < 6 ∧ 0 ≤ a4 ∧ a4 ≤ 30 ∧ 0 ≤ a2 ∧ a2 ≤ a3 ∧ a3 ≤ 3000
  · simp (disch := omega) only [bd_some, lm_e, if_pos, if_neg, up_ne, up_at, upf_same, upf_ne, reduceIte, or_true, true_or, wp_ret, wp_lm, wp_bd, wp_none]
    refine ⟨trivial, ?_⟩
    rw [e_tally2]
    · simp (disch := omega) only [bd_some, lm_e, if_pos, if_neg, up_ne, up_at, upf_same, upf_ne, reduceIte, or_true, true_or, wp_ret, wp_lm, wp_bd, wp_none]
      refine ⟨by omega, trivial, ?_⟩
      unfold Inv
      simp (disch := omega) only [bd_some, lm_e, if_pos, if_neg, up_ne, up_at, upf_same, upf_ne, reduceIte, or_true, true_or]
      refine ⟨hb, hsp, hr, ht, htab, Isite_fr hs (fun a ha => by simp (disch := omega) only [bd_some, lm_e, if_pos, if_neg, up_ne, up_at, upf_same, upf_ne, reduceIte, or_true, true_or]) (by simp (disch := omega) only [bd_some, lm_e, if_pos, if_neg, up_ne, up_at, upf_same, upf_ne, reduceIte, or_true, true_or]) (by simp (disch := omega) only [bd_some, lm_e, if_pos, if_neg, up_ne, up_at, upf_same, upf_ne, reduceIte, or_true, true_or]) (by simp (disch := omega) only [bd_some, lm_e, if_pos, if_neg, up_ne, up_at, upf_same, upf_ne, reduceIte, or_true, true_or]) (by simp (disch := omega) only [bd_some, lm_e, if_pos, if_neg, up_ne, up_at, upf_same, upf_ne, reduceIte, or_true, true_or]) (by simp (disch := omega) only [bd_some, lm_e, if_pos, if_neg, up_ne, up_at, upf_same, upf_ne, reduceIte, or_true, true_or]), Irefs_fr hrf (by simp (disch := omega) only [bd_some, lm_e, if_pos, if_neg, up_ne, up_at, upf_same, upf_ne, reduceIte, or_true, true_or]) (by simp (disch := omega) only [bd_some, lm_e, if_pos, if_neg, up_ne, up_at, upf_same, upf_ne, reduceIte, or_true, true_or]) (by simp (disch := omega) only [bd_some, lm_e, if_pos, if_neg, up_ne, up_at, upf_same, upf_ne, reduceIte, or_true, true_or]) (by simp (disch := omega) only [bd_some, lm_e, if_pos, if_neg, up_ne, up_at, upf_same, upf_ne, reduceIte, or_true, true_or]), Iplan_fr hp (fun a ha => by simp (disch := omega) only [bd_some, lm_e, if_pos, if_neg, up_ne, up_at, upf_same, upf_ne, reduceIte, or_true, true_or]), ?_, ⟨q1, by omega, fun he => by omega⟩⟩
      refine ⟨by omega, by omega, by omega, fun i hi => ?_⟩
      by_cases hi2 : i = (μ 8 5).toNat
      · rw [b1, hi2]
        simp (disch := omega) only [bd_some, lm_e, if_pos, if_neg, up_ne, up_at, upf_same, upf_ne, reduceIte, or_true, true_or]
        and_intros <;> first | trivial | omega
      · rw [b1]
        simp (disch := omega) only [bd_some, lm_e, if_pos, if_neg, up_ne, up_at, upf_same, upf_ne, reduceIte, or_true, true_or]
        exact b7 i (by omega)
    · simp (disch := omega) only [bd_some, lm_e, if_pos, if_neg, up_ne, up_at, upf_same, upf_ne, reduceIte, or_true, true_or]
      omega
    · simp (disch := omega) only [bd_some, lm_e, if_pos, if_neg, up_ne, up_at, upf_same, upf_ne, reduceIte, or_true, true_or]
      omega
  · rw [if_neg hc]
    simp (disch := omega) only [bd_some, lm_e, if_pos, if_neg, up_ne, up_at, upf_same, upf_ne, reduceIte, or_true, true_or, wp_ret, wp_lm, wp_bd, wp_none]
    refine ⟨trivial, ?_⟩
    rw [e_tally2 a1 a2 a3 a4 (by omega) (by omega), if_neg (by omega)]
    exact ⟨rfl, rfl, hI⟩
theorem m_end {μ : Mem} (h : Inv μ) (a1 : Int) : Same0 Inv (fun μ => f_X10_end μ a1) (fun μ => f_X11_end μ a1) μ := by
  have hI := h
  obtain ⟨hb, hsp, hr, ⟨t1, t2, t3, t4⟩, htab, hs, hrf, hp, hta, hq⟩ := h
  refine same0_of ?_
  show wp (f_X10_end μ a1) _
  unfold f_X10_end f_X9_keepFirst
  by_cases hc : 0 ≤ a1 ∧ a1 ≤ μ 3 1
  · simp (disch := omega) only [bd_some, lm_e, if_pos, if_neg, up_ne, up_at, upf_same, upf_ne, reduceIte, or_true, true_or, wp_ret, wp_lm, wp_bd, wp_none]
    refine ⟨trivial, ?_⟩
    unfold f_X11_end
    simp (disch := omega) only [bd_some, lm_e, if_pos, if_neg, up_ne, up_at, upf_same, upf_ne, reduceIte, or_true, true_or, wp_ret, wp_lm, wp_bd, wp_none]
    refine ⟨trivial, trivial, ?_⟩
    unfold Inv
    simp (disch := omega) only [bd_some, lm_e, if_pos, if_neg, up_ne, up_at, upf_same, upf_ne, reduceIte, or_true, true_or]
    exact ⟨hb, hsp, hr, ⟨rfl, by omega, by omega, fun i hi => t4 i (by omega)⟩, htab, Isite_fr hs (fun a ha => by simp (disch := omega) only [bd_some, lm_e, if_pos, if_neg, up_ne, up_at, upf_same, upf_ne, reduceIte, or_true, true_or]) (by simp (disch := omega) only [bd_some, lm_e, if_pos, if_neg, up_ne, up_at, upf_same, upf_ne, reduceIte, or_true, true_or]) (by simp (disch := omega) only [bd_some, lm_e, if_pos, if_neg, up_ne, up_at, upf_same, upf_ne, reduceIte, or_true, true_or]) (by simp (disch := omega) only [bd_some, lm_e, if_pos, if_neg, up_ne, up_at, upf_same, upf_ne, reduceIte, or_true, true_or]) (by simp (disch := omega) only [bd_some, lm_e, if_pos, if_neg, up_ne, up_at, upf_same, upf_ne, reduceIte, or_true, true_or]) (by simp (disch := omega) only [bd_some, lm_e, if_pos, if_neg, up_ne, up_at, upf_same, upf_ne, reduceIte, or_true, true_or]), Irefs_fr hrf (by simp (disch := omega) only [bd_some, lm_e, if_pos, if_neg, up_ne, up_at, upf_same, upf_ne, reduceIte, or_true, true_or]) (by simp (disch := omega) only [bd_some, lm_e, if_pos, if_neg, up_ne, up_at, upf_same, upf_ne, reduceIte, or_true, true_or]) (by simp (disch := omega) only [bd_some, lm_e, if_pos, if_neg, up_ne, up_at, upf_same, upf_ne, reduceIte, or_true, true_or]) (by simp (disch := omega) only [bd_some, lm_e, if_pos, if_neg, up_ne, up_at, upf_same, upf_ne, reduceIte, or_true, true_or]), Iplan_fr hp (fun a ha => by simp (disch := omega) only [bd_some, lm_e, if_pos, if_neg, up_ne, up_at, upf_same, upf_ne, reduceIte, or_true, true_or]), hta, hq⟩
  · by_cases hn : a1 < 0
    · unfold f_X11_end
      simp (disch := omega) only [bd_some, lm_e, if_pos, if_neg, up_ne, up_at, upf_same, upf_ne, reduceIte, or_true, true_or, wp_ret, wp_lm, wp_bd, wp_none]
      exact ⟨trivial, trivial, trivial, hI⟩
    · unfold f_X11_end
      simp (disch := omega) only [bd_some, lm_e, if_pos, if_neg, up_ne, up_at, upf_same, upf_ne, reduceIte, or_true, true_or, wp_ret, wp_lm, wp_bd, wp_none]
      exact ⟨trivial, trivial, trivial, hI⟩
noncomputable def laidCnt (μ : Mem) (g a b : Int) (n : Nat) : Int := countTo (fun k => μ 318 k = g ∧ a ≤ μ 319 k ∧ μ 319 k ≤ b) n
theorem laid_s {μ : Mem} {g a b v : Int} (h0 : 0 ≤ v) : laidCnt μ g a b (v + 1).toNat = laidCnt μ g a b v.toNat + b2i (μ 318 v.toNat = g ∧ a ≤ μ 319 v.toNat ∧ μ 319 v.toNat ≤ b) := by
  rw [show (v + 1).toNat = v.toNat + 1 by omega]; rfl
theorem e_stonesLaidBy_6 {μ : Mem} (hs : Isite μ) (g a b : Int) : ∀ (d n : Nat) (v4 v5 : Int), 0 ≤ v5 → v5 + (d : Int) = μ 6 6 → d < n → 0 ≤ v4 → v4 ≤ v5 → f_X3_stonesLaidBy_6 n g a b v4 v5 μ = some (v4 + (laidCnt μ g a b (μ 6 6).toNat - laidCnt μ g a b v5.toNat), μ)
  | 0, n + 1, v2, v3, h0, h1, h2, h3, h4 => by
    rw [f_X3_stonesLaidBy_6_e]
    have : v3.toNat = (μ 6 6).toNat := by omega
    rw [this]
    simp (disch := omega) only [bd_some, lm_e, if_pos, if_neg, up_ne, up_at, upf_same, upf_ne, reduceIte, or_true, true_or]
    rw [show v2 + (laidCnt μ g a b (μ 6 6).toNat - laidCnt μ g a b (μ 6 6).toNat) = v2 by omega]
  | d + 1, n + 1, v2, v3, h0, h1, h2, h3, h4 => by
    rw [f_X3_stonesLaidBy_6_e]
    obtain ⟨-, -, -, -, -, -, -, -, b1, b2, b3, -⟩ := Isite_b hs
    obtain ⟨s0, s1, s2, s3, s4, s5, -⟩ := Isite_s hs v3.toNat (by omega)
    have e1 := laid_s (μ := μ) (g := g) (a := a) (b := b) h0
    have ih := e_stonesLaidBy_6 hs g a b d n v2 (v3 + 1) (by omega) (by omega) (by omega) (by omega) (by omega)
    by_cases hc : μ 318 v3.toNat = g
    · by_cases c1 : μ 319 v3.toNat < a
      · rw [b2i_f (by omega)] at e1
        simp (disch := omega) only [s0, tn100, s4, s5, bd_some, lm_e, if_pos, if_neg, up_ne, up_at, upf_same, upf_ne, reduceIte, or_true, true_or]
        rw [ih, e1, show laidCnt μ g a b v3.toNat + 0 = laidCnt μ g a b v3.toNat by omega]
      by_cases c2 : b < μ 319 v3.toNat
      · rw [b2i_f (by omega)] at e1
        simp (disch := omega) only [s0, tn100, s4, s5, bd_some, lm_e, if_pos, if_neg, up_ne, up_at, upf_same, upf_ne, reduceIte, or_true, true_or]
        rw [ih, e1, show laidCnt μ g a b v3.toNat + 0 = laidCnt μ g a b v3.toNat by omega]
      · rw [b2i_t (by omega)] at e1
        simp (disch := omega) only [s0, tn100, s4, s5, bd_some, lm_e, if_pos, if_neg, up_ne, up_at, upf_same, upf_ne, reduceIte, or_true, true_or]
        rw [e_stonesLaidBy_6 hs g a b d n (v2 + 1) (v3 + 1) (by omega) (by omega) (by omega) (by omega) (by omega), e1]
        rw [show v2 + 1 + (laidCnt μ g a b (μ 6 6).toNat - (laidCnt μ g a b v3.toNat + 1)) = v2 + (laidCnt μ g a b (μ 6 6).toNat - laidCnt μ g a b v3.toNat) by omega]
    · rw [b2i_f (by omega)] at e1
      simp (disch := omega) only [s0, tn100, s4, s5, bd_some, lm_e, if_pos, if_neg, up_ne, up_at, upf_same, upf_ne, reduceIte, or_true, true_or]
      rw [ih, e1, show laidCnt μ g a b v3.toNat + 0 = laidCnt μ g a b v3.toNat by omega]
theorem e_isTrue_20 {μ : Mem} (hs : Isite μ) {t : Int} (ht : 0 ≤ t ∧ t < 20) (hg : 0 ≤ μ 331 t.toNat) : ∀ (d n : Nat) (v4 v5 : Int), 0 ≤ v5 → v5 + (d : Int) = μ 6 6 → d < n → 0 ≤ v4 → v4 ≤ v5 → f_X11_isTrue_20 n t v4 v5 μ = some (b2i (v4 + (laidCnt μ (μ 331 t.toNat) (μ 332 t.toNat) (μ 333 t.toNat) (μ 6 6).toNat - laidCnt μ (μ 331 t.toNat) (μ 332 t.toNat) (μ 333 t.toNat) v5.toNat) = μ 334 t.toNat), μ)
  | 0, n + 1, v2, v3, h0, h1, h2, h3, h4 => by
    rw [f_X11_isTrue_20_e]
    obtain ⟨-, -, -, -, -, -, -, b0, b1, b2, b3, -⟩ := Isite_b hs
    have : v3.toNat = (μ 6 6).toNat := by omega
    rw [this]
    rw [show v2 + (laidCnt μ (μ 331 t.toNat) (μ 332 t.toNat) (μ 333 t.toNat) (μ 6 6).toNat - laidCnt μ (μ 331 t.toNat) (μ 332 t.toNat) (μ 333 t.toNat) (μ 6 6).toNat) = v2 by omega]
    by_cases hc : v2 = μ 334 t.toNat
    · rw [b2i_t hc]
      simp (disch := omega) only [bd_some, lm_e, if_pos, if_neg, up_ne, up_at, upf_same, upf_ne, reduceIte, or_true, true_or]
    · rw [b2i_f hc]
      simp (disch := omega) only [bd_some, lm_e, if_pos, if_neg, up_ne, up_at, upf_same, upf_ne, reduceIte, or_true, true_or]
  | d + 1, n + 1, v2, v3, h0, h1, h2, h3, h4 => by
    rw [f_X11_isTrue_20_e]
    obtain ⟨-, -, -, -, -, -, -, b0, b1, b2, b3, -⟩ := Isite_b hs
    obtain ⟨s0, s1, s2, s3, s4, s5, -, -, -, -, -, -, s6, -⟩ := Isite_s hs v3.toNat (by omega)
    have e1 := laid_s (μ := μ) (g := μ 331 t.toNat) (a := μ 332 t.toNat) (b := μ 333 t.toNat) h0
    have ih := e_isTrue_20 hs ht hg d n v2 (v3 + 1) (by omega) (by omega) (by omega) (by omega) (by omega)
    have ih2 := e_isTrue_20 hs ht hg d n (v2 + 1) (v3 + 1) (by omega) (by omega) (by omega) (by omega) (by omega)
    by_cases h5 : μ 317 v3.toNat = 5
    · by_cases hc : μ 318 v3.toNat = μ 331 t.toNat
      · by_cases c1 : μ 332 t.toNat ≤ μ 319 v3.toNat ∧ μ 319 v3.toNat ≤ μ 333 t.toNat
        · rw [b2i_t ⟨hc, c1⟩] at e1
          simp (disch := omega) only [f_in_e, b2i_0, bd_some, lm_e, if_pos, if_neg, up_ne, up_at, upf_same, upf_ne, reduceIte, or_true, true_or]
          rw [ih2, e1]
          refine congrArg (fun z => some (z, μ)) (b2i_cong ?_)
          omega
        · rw [b2i_f (by omega)] at e1
          simp (disch := omega) only [f_in_e, b2i_0, bd_some, lm_e, if_pos, if_neg, up_ne, up_at, upf_same, upf_ne, reduceIte, or_true, true_or]
          rw [show v2 + 0 = v2 by omega, ih, e1]
          refine congrArg (fun z => some (z, μ)) (b2i_cong ?_)
          omega
      · rw [b2i_f (by omega)] at e1
        simp (disch := omega) only [bd_some, lm_e, if_pos, if_neg, up_ne, up_at, upf_same, upf_ne, reduceIte, or_true, true_or]
        rw [show v2 + 0 = v2 by omega, ih, e1]
        refine congrArg (fun z => some (z, μ)) (b2i_cong ?_)
        omega
    · have := s6 h5
      rw [b2i_f (by omega)] at e1
      simp (disch := omega) only [bd_some, lm_e, if_pos, if_neg, up_ne, up_at, upf_same, upf_ne, reduceIte, or_true, true_or]
      rw [show v2 + 0 = v2 by omega, ih, e1]
      refine congrArg (fun z => some (z, μ)) (b2i_cong ?_)
      omega
theorem m_isTrue {μ : Mem} (h : Inv μ) (a1 : Int) : Same0 Inv (fun μ => f_X10_isTrue μ a1) (fun μ => f_X11_isTrue μ a1) μ := by
  have hI := h
  obtain ⟨hb, hsp, hr, ht, htab, hs, hrf, hp, ⟨t1, t2, t3, t4⟩, hq⟩ := h
  obtain ⟨n1, n2, n3, n4, n5, n6, n7, n8, n9, n10, n11, -⟩ := Isite_b hs
  by_cases hc : 0 ≤ a1 ∧ a1 < μ 8 5
  · obtain ⟨q1, q2, q3, q4, q5, q6, -⟩ := t4 a1.toNat (by omega)
    have k1 : f_X3_stonesLaidBy μ (μ 32 a1.toNat) (μ 33 a1.toNat) (μ 34 a1.toNat) = some (laidCnt μ (μ 32 a1.toNat) (μ 33 a1.toNat) (μ 34 a1.toNat) (μ 6 6).toNat, μ) := by
      unfold f_X3_stonesLaidBy
      rw [e_stonesLaidBy_6 hs _ _ _ (μ 6 6).toNat 64 0 0 (by omega) (by omega) (by omega) (by omega) (by omega)]
      rw [show laidCnt μ (μ 32 a1.toNat) (μ 33 a1.toNat) (μ 34 a1.toNat) (0 : Int).toNat = 0 from rfl]
      refine congrArg (fun z => some (z, μ)) ?_
      omega
    have k2 := e_isTrue_20 hs (t := a1) ⟨hc.1, by omega⟩ (by omega) (μ 6 6).toNat 64 0 0 (by omega) (by omega) (by omega) (by omega) (by omega)
    rw [show laidCnt μ (μ 331 a1.toNat) (μ 332 a1.toNat) (μ 333 a1.toNat) (0 : Int).toNat = 0 from rfl, q1, q2, q3, q4] at k2
    refine same0_ro (r := b2i (laidCnt μ (μ 32 a1.toNat) (μ 33 a1.toNat) (μ 34 a1.toNat) (μ 6 6).toNat = μ 35 a1.toNat)) ?_ ?_ hI
    · show f_X10_isTrue μ a1 = _
      unfold f_X10_isTrue f_X8_tellTruth
      by_cases he : laidCnt μ (μ 32 a1.toNat) (μ 33 a1.toNat) (μ 34 a1.toNat) (μ 6 6).toNat = μ 35 a1.toNat
      · rw [b2i_t he]
        simp (disch := omega) only [k1, bd_some, lm_e, if_pos, if_neg, up_ne, up_at, upf_same, upf_ne, reduceIte, or_true, true_or]
      · rw [b2i_f he]
        simp (disch := omega) only [k1, bd_some, lm_e, if_pos, if_neg, up_ne, up_at, upf_same, upf_ne, reduceIte, or_true, true_or]
    · show f_X11_isTrue μ a1 = _
      unfold f_X11_isTrue
      simp (disch := omega) only [f_in_e, b2i_0, bd_some, lm_e, if_pos, if_neg, up_ne, up_at, upf_same, upf_ne, reduceIte, or_true, true_or]
      rw [k2]
      refine congrArg (fun z => some (z, μ)) (b2i_cong ?_)
      omega
  · refine same0_ro (r := -1) ?_ ?_ hI
    · show f_X10_isTrue μ a1 = _
      unfold f_X10_isTrue f_X8_tellTruth
      by_cases hn : a1 < 0
      · simp (disch := omega) only [bd_some, lm_e, if_pos, if_neg, up_ne, up_at, upf_same, upf_ne, reduceIte, or_true, true_or]
      · simp (disch := omega) only [bd_some, lm_e, if_pos, if_neg, up_ne, up_at, upf_same, upf_ne, reduceIte, or_true, true_or]
    · show f_X11_isTrue μ a1 = _
      unfold f_X11_isTrue
      simp (disch := omega) only [f_in_e, b2i_0, bd_some, lm_e, if_pos, if_neg, up_ne, up_at, upf_same, upf_ne, reduceIte, or_true, true_or]
