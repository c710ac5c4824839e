/-! DAYS -/
theorem up_up {μ : Mem} {o k : Nat} {a b : Int} : up (up μ o k a) o k b = up μ o k b := by
  funext x j
  by_cases h : x = o
  · subst h
    rw [up_at, up_at, up_at]
    by_cases h2 : j = k
    · rw [h2, upf_same, upf_same]
    · rw [upf_ne h2, upf_ne h2, upf_ne h2]
  · rw [up_ne h, up_ne h, up_ne h]
def dayS (now : Int) (H W : Prop) (μ ν : Mem) : Prop := Itab (μ 17) (ν 312) ∧ Ispell (μ 1 3) (ν 300 4) (μ 9) (μ 10) (μ 11) (ν 308) (ν 309) (ν 310) ∧ (isOnP (μ 1 3) (μ 9) (μ 10) (μ 11) 0 now ↔ H) ∧ (isOnP (μ 1 3) (μ 9) (μ 10) (μ 11) 1 now ↔ W)
theorem dayS_fr {now : Int} {H W : Prop} {μ μ' ν ν' : Mem} (h : dayS now H W μ ν) (d : dfr μ μ' ν ν') : dayS now H W μ' ν' := by
  obtain ⟨d1, d2, d3, d4⟩ := d
  unfold sR at d3
  unfold dayS
  rw [d1 17 (by omega), d3 312 (by omega) (by omega), d1 1 (by omega), d1 9 (by omega), d1 10 (by omega), d1 11 (by omega), d4 4 (by omega), d3 308 (by omega) (by omega), d3 309 (by omega) (by omega), d3 310 (by omega) (by omega)]
  exact h
theorem dayS_is {now : Int} {H W : Prop} {μ ν : Mem} (h : dayS now H W μ ν) : f_X11_is ν 0 now = some (b2i H, ν) := by
  obtain ⟨-, hsp, hH, -⟩ := h
  have p := hsp
  obtain ⟨p1, p2, p3, -⟩ := p
  rw [e_is (by omega) (by omega), b2i_cong ((isOn_same hsp 0 now).trans hH)]
set_option maxHeartbeats 8000000 in
theorem day_loop {now idle high wet fe la : Int} {H W : Prop} (hi : (idle = 0 ∧ fe = 0 ∧ la = 0 ∧ high = b2i H ∧ wet = b2i W) ∨ (idle = 1 ∧ (fe ≠ 0 ∨ la ≠ 0) ∧ high = 0)) : ∀ (d n m : Nat) (v : Int) (μ ν : Mem), dayI now v μ ν → dayS now H W μ ν → 0 ≤ v → v + (d : Int) = μ 6 5 → d < n → d < m → ∃ μ1 ν1, f_X3_liveDay_122 n idle high wet v μ = some (0, up μ1 6 9 (now + 1)) ∧ f_X11_day_133 m fe la v ν = some (0, ν1) ∧ dfr μ μ1 ν ν1 ∧ dayI now (μ 6 5) μ1 ν1
  | 0, n + 1, m + 1, v, μ, ν, hD, hS, h0, h1, _, _ => by
    have n0 := sN_n hD.1
    have hnow := hD.2.1
    refine ⟨μ, ν, ?_, ?_, dfr_rf μ ν, ?_⟩
    · rw [f_X3_liveDay_122_e]
      simp (disch := omega) only [hnow, bd_some, lm_e, if_pos, if_neg, up_ne, up_at, upf_same, upf_ne, reduceIte, or_true, true_or, Int.reduceToNat, Int.toNat_natCast, tn100, tn200]
    · rw [f_X11_day_133_e]
      simp (disch := omega) only [bd_some, lm_e, if_pos, if_neg, up_ne, up_at, upf_same, upf_ne, reduceIte, or_true, true_or, Int.reduceToNat, Int.toNat_natCast, tn100, tn200]
    · rw [show μ 6 5 = v by omega]; exact hD
  | d + 1, n + 1, m + 1, v, μ, ν, hD, hS, h0, h1, hn, hm => by
    have n0 := sN_n hD.1
    obtain ⟨g, rfl⟩ : ∃ g : Nat, v = (g : Int) := ⟨v.toNat, by omega⟩
    have hg : (g : Int) < μ 6 5 := by omega
    obtain ⟨z0, z1, z2, z3, z4, z5, z6, z7, z8, z9, z10, z11, z12, z13, z14, z15⟩ := sN_g hD.1 g hg
    have h3 := hD.2.2.1
    have his := dayS_is hS
    -- what comes behind this gang
    have next : ∀ μ' ν', dfr μ μ' ν ν' → dayI now ((g : Int) + 1) μ' ν' → ∃ μ1 ν1, f_X3_liveDay_122 n idle high wet ((g : Int) + 1) μ' = some (0, up μ1 6 9 (now + 1)) ∧ f_X11_day_133 m fe la ((g : Int) + 1) ν' = some (0, ν1) ∧ dfr μ μ1 ν ν1 ∧ dayI now (μ 6 5) μ1 ν1 := by
      intro μ' ν' q1 q2
      have e65 : μ' 6 5 = μ 6 5 := q1.2.1 5 (by omega)
      obtain ⟨μ1, ν1, k1, k2, k3, k4⟩ := day_loop hi d n m ((g : Int) + 1) μ' ν' q2 (dayS_fr hS q1) (by omega) (by rw [e65]; omega) (by omega) (by omega)
      exact ⟨μ1, ν1, k1, k2, dfr_tr q1 k3, by rw [← e65]; exact k4⟩
    rw [f_X3_liveDay_122_e, f_X11_day_133_e]
    by_cases hw : ν 302 g = -1
    · obtain ⟨μ1, ν1, k1, k2, k3, k4⟩ := next μ ν (dfr_rf μ ν) (dayI_up hD (by omega))
      have e1n : f_X3_stoneAt μ (-1) = some (-1, μ) := n_stoneAt_n (by omega)
      have ew : f_X3_workOneDay μ (g : Int) wet = some (0, μ) := by
        refine ex_of ?_
        unfold f_X3_workOneDay
        simp only [Int.toNat_natCast, z0, tn200, z2, hw]
        repeat (first | rw [wp_ret] | rw [wp_lm] | rw [wp_bd] | (rw [e1n, wp_ret]; (try simp only [tn200, tn100, Int.toNat_natCast, Int.reduceToNat])) | (with_reducible refine wp_t ?_ ?_; focus (first | omega | (simp (disch := omega) only [gaq, stq, up_ne, up_at, upf_same, upf_ne, tn200, tn100, Int.toNat_natCast, Int.reduceToNat]; (try omega); done))) | (with_reducible refine wp_f ?_ ?_; focus (first | omega | (simp (disch := omega) only [gaq, stq, up_ne, up_at, upf_same, upf_ne, tn200, tn100, Int.toNat_natCast, Int.reduceToNat]; (try omega); done))))
        first | exact ⟨rfl, rfl⟩ | exact ⟨trivial, rfl⟩ | exact ⟨trivial, trivial⟩ | exact trivial
      refine ⟨μ1, ν1, ?_, ?_, k3, k4⟩
      · unfold f_X3_isRafting
        by_cases hz : idle = 0
        · simp (disch := omega) only [Int.toNat_natCast, z0, tn200, z2, hw, e1n, ew, k1, bd_some, lm_e, if_pos, if_neg, up_ne, up_at, upf_same, upf_ne, reduceIte, or_true, true_or, Int.reduceToNat, Int.toNat_natCast, tn100, tn200]
        · simp (disch := omega) only [Int.toNat_natCast, z0, tn200, z2, hw, e1n, k1, bd_some, lm_e, if_pos, if_neg, up_ne, up_at, upf_same, upf_ne, reduceIte, or_true, true_or, Int.reduceToNat, Int.toNat_natCast, tn100, tn200]
      · unfold f_X11_day_185 f_X11_day_186 f_X11_day_236
        simp (disch := omega) only [Int.toNat_natCast, hw, k2, bd_some, lm_e, if_pos, if_neg, up_ne, up_at, upf_same, upf_ne, reduceIte, or_true, true_or, Int.reduceToNat, Int.toNat_natCast, tn100, tn200]
    by_cases hr : ν 302 g = 30
    · have e1n : f_X3_stoneAt μ 30 = some (-1, μ) := n_stoneAt_n (by omega)
      rcases hi with ⟨i1, i2, i3, i4, i5⟩ | ⟨i1, i2, i3⟩
      · obtain ⟨μ', ν', c1, c2, c3, c4⟩ := day_work hD hS.1 hS.2.1 hg hw
        rw [b2i_cong hS.2.2.2, ← i5] at c1
        obtain ⟨μ1, ν1, k1, k2, k3, k4⟩ := next μ' ν' c3 c4
        refine ⟨μ1, ν1, ?_, ?_, k3, k4⟩
        · unfold f_X3_isRafting
          simp (disch := omega) only [Int.toNat_natCast, z0, tn200, z2, hr, e1n, c1, k1, bd_some, lm_e, if_pos, if_neg, up_ne, up_at, upf_same, upf_ne, reduceIte, or_true, true_or, Int.reduceToNat, Int.toNat_natCast, tn100, tn200]
        · unfold f_X11_day_185 f_X11_day_186 f_X11_day_236
          simp (disch := omega) only [Int.toNat_natCast, hr, c2, k2, bd_some, lm_e, if_pos, if_neg, up_ne, up_at, upf_same, upf_ne, reduceIte, or_true, true_or, Int.reduceToNat, Int.toNat_natCast, tn100, tn200]
      · obtain ⟨μ1, ν1, k1, k2, k3, k4⟩ := next μ ν (dfr_rf μ ν) (dayI_up hD (by omega))
        refine ⟨μ1, ν1, ?_, ?_, k3, k4⟩
        · unfold f_X3_isRafting
          simp (disch := omega) only [Int.toNat_natCast, z0, tn200, z2, hr, e1n, k1, bd_some, lm_e, if_pos, if_neg, up_ne, up_at, upf_same, upf_ne, reduceIte, or_true, true_or, Int.reduceToNat, Int.toNat_natCast, tn100, tn200]
        · unfold f_X11_day_185 f_X11_day_186 f_X11_day_236
          by_cases hf : fe = 0
          · simp (disch := omega) only [Int.toNat_natCast, hr, k2, bd_some, lm_e, if_pos, if_neg, up_ne, up_at, upf_same, upf_ne, reduceIte, or_true, true_or, Int.reduceToNat, Int.toNat_natCast, tn100, tn200]
          · simp (disch := omega) only [Int.toNat_natCast, hr, k2, bd_some, lm_e, if_pos, if_neg, up_ne, up_at, upf_same, upf_ne, reduceIte, or_true, true_or, Int.reduceToNat, Int.toNat_natCast, tn100, tn200]
    · obtain ⟨k, hk⟩ : ∃ k : Nat, ν 302 g = (k : Int) := ⟨(ν 302 g).toNat, by omega⟩
      have hkS : (k : Int) < μ 6 6 := by omega
      obtain ⟨s0, s1, s2, s3, s4, s5, s6, s7, s8, s9, s10, s11, s12, s13, s14⟩ := sN_s hD.1 k hkS
      have e1 : f_X3_stoneAt μ (k : Int) = some (100 + (k : Int), μ) := by rw [n_stoneAt hD.1 (by omega) hkS]; rfl
      by_cases h2 : ν 317 k = 2
      · by_cases hh : high = 0
        · obtain ⟨μ', c1, c3, c4⟩ := day_leave hD hg hkS hk h2
          obtain ⟨μ1, ν1, k1, k2, k3, k4⟩ := next μ' _ c3 c4
          refine ⟨μ1, ν1, ?_, ?_, k3, k4⟩
          · unfold f_X3_isRafting
            simp (disch := omega) only [Int.toNat_natCast, z0, tn200, z2, hk, e1, tn100, s3, h2, c1, k1, bd_some, lm_e, if_pos, if_neg, up_ne, up_at, upf_same, upf_ne, reduceIte, or_true, true_or, Int.reduceToNat, Int.toNat_natCast, tn100, tn200]
          · rcases hi with ⟨i1, i2, i3, i4, i5⟩ | ⟨i1, i2, i3⟩
            · have hH : b2i H = 0 := by omega
              rw [hH] at his
              unfold f_X11_day_186 f_X11_day_213 f_X11_rests
              simp (disch := omega) only [Int.toNat_natCast, hk, h2, h3, his, k2, bd_some, lm_e, if_pos, if_neg, up_ne, up_at, upf_same, upf_ne, reduceIte, or_true, true_or, Int.reduceToNat, Int.toNat_natCast, tn100, tn200]
            · unfold f_X11_day_186 f_X11_day_213 f_X11_rests
              by_cases hz : b2i H = 0
              · simp (disch := omega) only [Int.toNat_natCast, hk, h2, h3, his, k2, bd_some, lm_e, if_pos, if_neg, up_ne, up_at, upf_same, upf_ne, reduceIte, or_true, true_or, Int.reduceToNat, Int.toNat_natCast, tn100, tn200]
              · by_cases hf : fe = 0
                · simp (disch := omega) only [Int.toNat_natCast, hk, h2, h3, his, k2, bd_some, lm_e, if_pos, if_neg, up_ne, up_at, upf_same, upf_ne, reduceIte, or_true, true_or, Int.reduceToNat, Int.toNat_natCast, tn100, tn200]
                · simp (disch := omega) only [Int.toNat_natCast, hk, h2, h3, his, k2, bd_some, lm_e, if_pos, if_neg, up_ne, up_at, upf_same, upf_ne, reduceIte, or_true, true_or, Int.reduceToNat, Int.toNat_natCast, tn100, tn200]
        · rcases hi with ⟨i1, i2, i3, i4, i5⟩ | ⟨i1, i2, i3⟩
          · obtain ⟨μ', ν', c1, c2, c3, c4⟩ := day_work hD hS.1 hS.2.1 hg hw
            rw [b2i_cong hS.2.2.2, ← i5] at c1
            obtain ⟨μ1, ν1, k1, k2, k3, k4⟩ := next μ' ν' c3 c4
            refine ⟨μ1, ν1, ?_, ?_, k3, k4⟩
            · unfold f_X3_isRafting
              simp (disch := omega) only [Int.toNat_natCast, z0, tn200, z2, hk, e1, tn100, s3, h2, c1, k1, bd_some, lm_e, if_pos, if_neg, up_ne, up_at, upf_same, upf_ne, reduceIte, or_true, true_or, Int.reduceToNat, Int.toNat_natCast, tn100, tn200]
            · have hH : ¬ b2i H = 0 := by omega
              unfold f_X11_day_186 f_X11_day_236
              simp (disch := omega) only [Int.toNat_natCast, hk, h2, h3, his, c2, k2, bd_some, lm_e, if_pos, if_neg, up_ne, up_at, upf_same, upf_ne, reduceIte, or_true, true_or, Int.reduceToNat, Int.toNat_natCast, tn100, tn200]
          · exact absurd i3 hh
      · rcases hi with ⟨i1, i2, i3, i4, i5⟩ | ⟨i1, i2, i3⟩
        · obtain ⟨μ', ν', c1, c2, c3, c4⟩ := day_work hD hS.1 hS.2.1 hg hw
          rw [b2i_cong hS.2.2.2, ← i5] at c1
          obtain ⟨μ1, ν1, k1, k2, k3, k4⟩ := next μ' ν' c3 c4
          refine ⟨μ1, ν1, ?_, ?_, k3, k4⟩
          · unfold f_X3_isRafting
            simp (disch := omega) only [Int.toNat_natCast, z0, tn200, z2, hk, e1, tn100, s3, c1, k1, bd_some, lm_e, if_pos, if_neg, up_ne, up_at, upf_same, upf_ne, reduceIte, or_true, true_or, Int.reduceToNat, Int.toNat_natCast, tn100, tn200]
          · unfold f_X11_day_185 f_X11_day_186 f_X11_day_236
            simp (disch := omega) only [Int.toNat_natCast, hk, c2, k2, bd_some, lm_e, if_pos, if_neg, up_ne, up_at, upf_same, upf_ne, reduceIte, or_true, true_or, Int.reduceToNat, Int.toNat_natCast, tn100, tn200]
        · obtain ⟨μ1, ν1, k1, k2, k3, k4⟩ := next μ ν (dfr_rf μ ν) (dayI_up hD (by omega))
          refine ⟨μ1, ν1, ?_, ?_, k3, k4⟩
          · unfold f_X3_isRafting
            simp (disch := omega) only [Int.toNat_natCast, z0, tn200, z2, hk, e1, tn100, s3, k1, bd_some, lm_e, if_pos, if_neg, up_ne, up_at, upf_same, upf_ne, reduceIte, or_true, true_or, Int.reduceToNat, Int.toNat_natCast, tn100, tn200]
          · unfold f_X11_day_185 f_X11_day_186 f_X11_day_236
            by_cases hf : fe = 0
            · simp (disch := omega) only [Int.toNat_natCast, hk, k2, bd_some, lm_e, if_pos, if_neg, up_ne, up_at, upf_same, upf_ne, reduceIte, or_true, true_or, Int.reduceToNat, Int.toNat_natCast, tn100, tn200]
            · simp (disch := omega) only [Int.toNat_natCast, hk, k2, bd_some, lm_e, if_pos, if_neg, up_ne, up_at, upf_same, upf_ne, reduceIte, or_true, true_or, Int.reduceToNat, Int.toNat_natCast, tn100, tn200]
/-- the boats of a day -/
def foodF (d l : Nat → Int) (now : Int) : Nat → Nat → Int → Int
  | 0, _, f => f
  | k + 1, v, f => foodF d l now k (v + 1) (if d v = now then (if f + l v ≤ 10000000 then f + l v else 10000000) else f)
theorem foodF_b {d l : Nat → Int} {now : Int} : ∀ (k v : Nat) (f : Int), 0 ≤ f → f ≤ 10000000 → (∀ i, i < v + k → 1 ≤ l i) → 0 ≤ foodF d l now k v f ∧ foodF d l now k v f ≤ 10000000
  | 0, v, f, h1, h2, _ => ⟨h1, h2⟩
  | k + 1, v, f, h1, h2, h3 => by
    have := h3 v (by omega)
    refine foodF_b k (v + 1) _ ?_ ?_ (fun i hi => h3 i (by omega))
    · split
      · split <;> omega
      · exact h1
    · split
      · split <;> omega
      · exact h2
theorem foodF_cong {d l d' l' : Nat → Int} {now : Int} : ∀ (k v : Nat) (f : Int), (∀ i, i < v + k → d' i = d i ∧ l' i = l i) → foodF d' l' now k v f = foodF d l now k v f
  | 0, v, f, _ => rfl
  | k + 1, v, f, h => by
    show foodF d' l' now k (v + 1) _ = foodF d l now k (v + 1) _
    rw [(h v (by omega)).1, (h v (by omega)).2]
    exact foodF_cong k (v + 1) _ (fun i hi => h i (by omega))
theorem e_landBoats_2 {now : Int} : ∀ (k n v : Nat) (μ : Mem), k < n → (v : Int) + (k : Int) = μ 2 2 → μ 2 2 ≤ 40 → 0 ≤ μ 2 3 → μ 2 3 ≤ 10000000 → (∀ i : Nat, (i : Int) < μ 2 2 → 1 ≤ μ 15 i ∧ μ 15 i ≤ 1000000) → f_X5_landBoats_2 n now (v : Int) μ = some (0, up μ 2 3 (foodF (μ 14) (μ 15) now k v (μ 2 3)))
  | 0, n + 1, v, μ, h1, h2, h3, h4, h5, h6 => by
    rw [f_X5_landBoats_2_e]
    simp (disch := omega) only [bd_some, lm_e, if_pos, if_neg, up_ne, up_at, upf_same, upf_ne, reduceIte, or_true, true_or, Int.reduceToNat, Int.toNat_natCast, tn100, tn200]
    rw [show foodF (μ 14) (μ 15) now 0 v (μ 2 3) = μ 2 3 from rfl, up_id]
  | k + 1, n + 1, v, μ, h1, h2, h3, h4, h5, h6 => by
    rw [f_X5_landBoats_2_e]
    have hl := h6 v (by omega)
    have e : foodF (μ 14) (μ 15) now (k + 1) v (μ 2 3) = foodF (μ 14) (μ 15) now k (v + 1) (if μ 14 v = now then (if μ 2 3 + μ 15 v ≤ 10000000 then μ 2 3 + μ 15 v else 10000000) else μ 2 3) := rfl
    by_cases c : μ 14 v = now
    · by_cases c2 : μ 2 3 + μ 15 v < 10000000
      · have ih := e_landBoats_2 (now := now) k n (v + 1) (up μ 2 3 (μ 2 3 + μ 15 v)) (by omega) (by simp (disch := omega) only [bd_some, lm_e, if_pos, if_neg, up_ne, up_at, upf_same, upf_ne, reduceIte, or_true, true_or, Int.reduceToNat, Int.toNat_natCast, tn100, tn200]; omega) (by simp (disch := omega) only [bd_some, lm_e, if_pos, if_neg, up_ne, up_at, upf_same, upf_ne, reduceIte, or_true, true_or, Int.reduceToNat, Int.toNat_natCast, tn100, tn200]; omega) (by simp (disch := omega) only [bd_some, lm_e, if_pos, if_neg, up_ne, up_at, upf_same, upf_ne, reduceIte, or_true, true_or, Int.reduceToNat, Int.toNat_natCast, tn100, tn200]; omega) (by simp (disch := omega) only [bd_some, lm_e, if_pos, if_neg, up_ne, up_at, upf_same, upf_ne, reduceIte, or_true, true_or, Int.reduceToNat, Int.toNat_natCast, tn100, tn200]; omega) (by simp (disch := omega) only [bd_some, lm_e, if_pos, if_neg, up_ne, up_at, upf_same, upf_ne, reduceIte, or_true, true_or, Int.reduceToNat, Int.toNat_natCast, tn100, tn200]; exact h6)
        simp (disch := omega) only [bd_some, lm_e, if_pos, if_neg, up_ne, up_at, upf_same, upf_ne, reduceIte, or_true, true_or, Int.reduceToNat, Int.toNat_natCast, tn100, tn200] at ih
        rw [e, if_pos c, if_pos (show μ 2 3 + μ 15 v ≤ 10000000 by omega)]
        unfold f_J9_min_7cf53
        simp (disch := omega) only [Int.toNat_natCast, bd_some, lm_e, if_pos, if_neg, up_ne, up_at, upf_same, upf_ne, reduceIte, or_true, true_or, Int.reduceToNat, Int.toNat_natCast, tn100, tn200]
        rw [show ((v : Int) + 1) = ((v + 1 : Nat) : Int) by omega, ih, up_up]
      · have ih := e_landBoats_2 (now := now) k n (v + 1) (up μ 2 3 10000000) (by omega) (by simp (disch := omega) only [bd_some, lm_e, if_pos, if_neg, up_ne, up_at, upf_same, upf_ne, reduceIte, or_true, true_or, Int.reduceToNat, Int.toNat_natCast, tn100, tn200]; omega) (by simp (disch := omega) only [bd_some, lm_e, if_pos, if_neg, up_ne, up_at, upf_same, upf_ne, reduceIte, or_true, true_or, Int.reduceToNat, Int.toNat_natCast, tn100, tn200]; omega) (by simp (disch := omega) only [bd_some, lm_e, if_pos, if_neg, up_ne, up_at, upf_same, upf_ne, reduceIte, or_true, true_or, Int.reduceToNat, Int.toNat_natCast, tn100, tn200]; omega) (by simp (disch := omega) only [bd_some, lm_e, if_pos, if_neg, up_ne, up_at, upf_same, upf_ne, reduceIte, or_true, true_or, Int.reduceToNat, Int.toNat_natCast, tn100, tn200]; omega) (by simp (disch := omega) only [bd_some, lm_e, if_pos, if_neg, up_ne, up_at, upf_same, upf_ne, reduceIte, or_true, true_or, Int.reduceToNat, Int.toNat_natCast, tn100, tn200]; exact h6)
        simp (disch := omega) only [bd_some, lm_e, if_pos, if_neg, up_ne, up_at, upf_same, upf_ne, reduceIte, or_true, true_or, Int.reduceToNat, Int.toNat_natCast, tn100, tn200] at ih
        have e9 : (if μ 2 3 + μ 15 v ≤ 10000000 then μ 2 3 + μ 15 v else 10000000) = 10000000 := by split <;> omega
        rw [e, if_pos c, e9]
        unfold f_J9_min_7cf53
        simp (disch := omega) only [Int.toNat_natCast, bd_some, lm_e, if_pos, if_neg, up_ne, up_at, upf_same, upf_ne, reduceIte, or_true, true_or, Int.reduceToNat, Int.toNat_natCast, tn100, tn200]
        rw [show ((v : Int) + 1) = ((v + 1 : Nat) : Int) by omega, ih, up_up]
    · have ih := e_landBoats_2 (now := now) k n (v + 1) μ (by omega) (by omega) h3 h4 h5 h6
      rw [e, if_neg c]
      simp (disch := omega) only [Int.toNat_natCast, bd_some, lm_e, if_pos, if_neg, up_ne, up_at, upf_same, upf_ne, reduceIte, or_true, true_or, Int.reduceToNat, Int.toNat_natCast, tn100, tn200]
      rw [show ((v : Int) + 1) = ((v + 1 : Nat) : Int) by omega, ih]
def dayRest (ν : Mem) : Option (Int × Mem) := bd (f_X11_is ν 2 (ν 300 1)) fun r2 μ3 => bd (f_X11_allMen μ3 ) fun r7 μ8 => if r7 ≤ (μ8 300 15) then ((f_X11_day_93 r2 r7 0 μ8)) else ((f_X11_day_93 r2 r7 1 μ8))
theorem e_day_2 {now : Int} : ∀ (k n v : Nat) (ν : Mem), k < n → ν 300 1 = now → (v : Int) + (k : Int) = ν 300 3 → ν 300 3 ≤ 40 → 0 ≤ ν 300 15 → ν 300 15 ≤ 10000000 → (∀ i : Nat, (i : Int) < ν 300 3 → 1 ≤ ν 307 i ∧ ν 307 i ≤ 1000000) → f_X11_day_2 n (v : Int) ν = dayRest (up ν 300 15 (foodF (ν 306) (ν 307) now k v (ν 300 15)))
  | 0, n + 1, v, ν, h1, hn, h2, h3, h4, h5, h6 => by
    rw [f_X11_day_2_e, if_pos (by omega), show foodF (ν 306) (ν 307) now 0 v (ν 300 15) = ν 300 15 from rfl, up_id]
    rfl
  | k + 1, n + 1, v, ν, h1, hn, h2, h3, h4, h5, h6 => by
    rw [f_X11_day_2_e]
    have hl := h6 v (by omega)
    have e : foodF (ν 306) (ν 307) now (k + 1) v (ν 300 15) = foodF (ν 306) (ν 307) now k (v + 1) (if ν 306 v = now then (if ν 300 15 + ν 307 v ≤ 10000000 then ν 300 15 + ν 307 v else 10000000) else ν 300 15) := rfl
    by_cases c : ν 306 v = now
    · by_cases c2 : ν 300 15 + ν 307 v ≤ 10000000
      · have ih := e_day_2 (now := now) k n (v + 1) (up ν 300 15 (ν 300 15 + ν 307 v)) (by omega) (by simp (disch := omega) only [bd_some, lm_e, if_pos, if_neg, up_ne, up_at, upf_same, upf_ne, reduceIte, or_true, true_or, Int.reduceToNat, Int.toNat_natCast, tn100, tn200]; exact hn) (by simp (disch := omega) only [bd_some, lm_e, if_pos, if_neg, up_ne, up_at, upf_same, upf_ne, reduceIte, or_true, true_or, Int.reduceToNat, Int.toNat_natCast, tn100, tn200]; omega) (by simp (disch := omega) only [bd_some, lm_e, if_pos, if_neg, up_ne, up_at, upf_same, upf_ne, reduceIte, or_true, true_or, Int.reduceToNat, Int.toNat_natCast, tn100, tn200]; omega) (by simp (disch := omega) only [bd_some, lm_e, if_pos, if_neg, up_ne, up_at, upf_same, upf_ne, reduceIte, or_true, true_or, Int.reduceToNat, Int.toNat_natCast, tn100, tn200]; omega) (by simp (disch := omega) only [bd_some, lm_e, if_pos, if_neg, up_ne, up_at, upf_same, upf_ne, reduceIte, or_true, true_or, Int.reduceToNat, Int.toNat_natCast, tn100, tn200]; omega) (by simp (disch := omega) only [bd_some, lm_e, if_pos, if_neg, up_ne, up_at, upf_same, upf_ne, reduceIte, or_true, true_or, Int.reduceToNat, Int.toNat_natCast, tn100, tn200]; exact h6)
        simp (disch := omega) only [bd_some, lm_e, if_pos, if_neg, up_ne, up_at, upf_same, upf_ne, reduceIte, or_true, true_or, Int.reduceToNat, Int.toNat_natCast, tn100, tn200] at ih
        rw [e, if_pos c, if_pos c2]
        simp (disch := omega) only [Int.toNat_natCast, bd_some, lm_e, if_pos, if_neg, up_ne, up_at, upf_same, upf_ne, reduceIte, or_true, true_or, Int.reduceToNat, Int.toNat_natCast, tn100, tn200]
        rw [show ((v : Int) + 1) = ((v + 1 : Nat) : Int) by omega, ih, up_up]
      · have ih := e_day_2 (now := now) k n (v + 1) (up ν 300 15 10000000) (by omega) (by simp (disch := omega) only [bd_some, lm_e, if_pos, if_neg, up_ne, up_at, upf_same, upf_ne, reduceIte, or_true, true_or, Int.reduceToNat, Int.toNat_natCast, tn100, tn200]; exact hn) (by simp (disch := omega) only [bd_some, lm_e, if_pos, if_neg, up_ne, up_at, upf_same, upf_ne, reduceIte, or_true, true_or, Int.reduceToNat, Int.toNat_natCast, tn100, tn200]; omega) (by simp (disch := omega) only [bd_some, lm_e, if_pos, if_neg, up_ne, up_at, upf_same, upf_ne, reduceIte, or_true, true_or, Int.reduceToNat, Int.toNat_natCast, tn100, tn200]; omega) (by simp (disch := omega) only [bd_some, lm_e, if_pos, if_neg, up_ne, up_at, upf_same, upf_ne, reduceIte, or_true, true_or, Int.reduceToNat, Int.toNat_natCast, tn100, tn200]; omega) (by simp (disch := omega) only [bd_some, lm_e, if_pos, if_neg, up_ne, up_at, upf_same, upf_ne, reduceIte, or_true, true_or, Int.reduceToNat, Int.toNat_natCast, tn100, tn200]; omega) (by simp (disch := omega) only [bd_some, lm_e, if_pos, if_neg, up_ne, up_at, upf_same, upf_ne, reduceIte, or_true, true_or, Int.reduceToNat, Int.toNat_natCast, tn100, tn200]; exact h6)
        simp (disch := omega) only [bd_some, lm_e, if_pos, if_neg, up_ne, up_at, upf_same, upf_ne, reduceIte, or_true, true_or, Int.reduceToNat, Int.toNat_natCast, tn100, tn200] at ih
        rw [e, if_pos c, if_neg c2]
        simp (disch := omega) only [Int.toNat_natCast, bd_some, lm_e, if_pos, if_neg, up_ne, up_at, upf_same, upf_ne, reduceIte, or_true, true_or, Int.reduceToNat, Int.toNat_natCast, tn100, tn200]
        rw [show ((v : Int) + 1) = ((v + 1 : Nat) : Int) by omega, ih, up_up]
    · have ih := e_day_2 (now := now) k n (v + 1) ν (by omega) hn (by omega) h3 h4 h5 h6
      rw [e, if_neg c]
      simp (disch := omega) only [Int.toNat_natCast, bd_some, lm_e, if_pos, if_neg, up_ne, up_at, upf_same, upf_ne, reduceIte, or_true, true_or, Int.reduceToNat, Int.toNat_natCast, tn100, tn200]
      rw [show ((v : Int) + 1) = ((v + 1 : Nat) : Int) by omega, ih]
theorem e_allMen_4 {ν : Mem} (hG : ν 300 2 ≤ 6) (hm : ∀ g : Nat, (g : Int) < ν 300 2 → 1 ≤ ν 301 g ∧ ν 301 g ≤ 200) : ∀ (k n v : Nat) (s : Int), k < n → (v : Int) + (k : Int) = ν 300 2 → 0 ≤ s → s ≤ 200 * (v : Int) → s = sumTo (ν 301) v → f_X11_allMen_4 n s (v : Int) ν = some (sumTo (ν 301) (v + k), ν)
  | 0, n + 1, v, s, h1, h2, h3, h4, h5 => by
    rw [f_X11_allMen_4_e]
    simp (disch := omega) only [bd_some, lm_e, if_pos, if_neg, up_ne, up_at, upf_same, upf_ne, reduceIte, or_true, true_or, Int.reduceToNat, Int.toNat_natCast, tn100, tn200]
    rw [h5]; rfl
  | k + 1, n + 1, v, s, h1, h2, h3, h4, h5 => by
    rw [f_X11_allMen_4_e]
    have hv := hm v (by omega)
    have ih := e_allMen_4 hG hm k n (v + 1) (s + ν 301 v) (by omega) (by omega) (by omega) (by omega) (by rw [h5]; rfl)
    simp (disch := omega) only [Int.toNat_natCast, bd_some, lm_e, if_pos, if_neg, up_ne, up_at, upf_same, upf_ne, reduceIte, or_true, true_or, Int.reduceToNat, Int.toNat_natCast, tn100, tn200]
    rw [show ((v : Int) + 1) = ((v + 1 : Nat) : Int) by omega, ih, show v + 1 + k = v + (k + 1) by omega]
