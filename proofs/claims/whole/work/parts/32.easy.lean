/-! THE EASY CALLS -/
theorem bd_some {r : Int} {m : Mem} {k : Int → Mem → Option (Int × Mem)} : bd (some (r, m)) k = k r m := eq_of_heq (HEq.refl _)
theorem lm_e {α : Type} {m : Mem} {k : Mem → α} : lm m k = k m := eq_of_heq (HEq.refl _)
theorem upf_same {f : Nat → Int} {k : Nat} {v : Int} : upf f k v k = v := if_pos rfl
theorem upf_ne {f : Nat → Int} {k j : Nat} {v : Int} (h : j ≠ k) : upf f k v j = f j := if_neg h
theorem f_in_e (μ : Mem) (a b c : Int) : f_X11_in μ a b c = some (b2i (b ≤ a ∧ a ≤ c), μ) := by
  unfold f_X11_in
  split
  · rw [b2i_f (by omega)]
  · split
    · rw [b2i_f (by omega)]
    · rw [b2i_t (by omega)]
theorem f_isDay_e (μ : Mem) (a : Int) : f_X10_isDay μ a = some (b2i (0 ≤ a ∧ a ≤ 3000), μ) := by
  unfold f_X10_isDay
  split
  · rw [b2i_f (by omega)]
  · split
    · rw [b2i_f (by omega)]
    · rw [b2i_t (by omega)]
theorem e_boat {μ : Mem} (a1 a2 : Int) (h1 : 0 ≤ μ 2 2) (h2 : μ 2 2 ≤ 40) : f_X10_boat μ a1 a2 = if μ 6 9 ≤ a1 ∧ μ 2 2 < 40 ∧ 0 ≤ a1 ∧ a1 ≤ 3000 ∧ 1 ≤ a2 ∧ a2 ≤ 1000000 then some (μ 2 2 + 1, up (up (up μ 14 (μ 2 2).toNat a1) 15 (μ 2 2).toNat a2) 2 2 (μ 2 2 + 1)) else some (-1, μ) := by
  by_cases hc : μ 6 9 ≤ a1 ∧ μ 2 2 < 40 ∧ 0 ≤ a1 ∧ a1 ≤ 3000 ∧ 1 ≤ a2 ∧ a2 ≤ 1000000
  · simp (disch := omega) only [f_X10_boat, f_X5_addBoat, f_X10_isDay, bd_some, lm_e, if_pos, if_neg, up_ne, up_at, upf_same, upf_ne, reduceIte, or_true, true_or]
  · rw [if_neg hc]
    simp (disch := omega) only [f_X10_boat, f_X5_addBoat, f_X10_isDay, bd_some, lm_e, if_pos, if_neg, up_ne, up_at, upf_same, upf_ne, reduceIte, or_true, true_or]
    (repeat' split) <;> first | rfl | (exfalso; omega)
theorem e_boat2 {μ : Mem} (a1 a2 : Int) (h1 : 0 ≤ μ 300 3) (h2 : μ 300 3 ≤ 40) : f_X11_boat μ a1 a2 = if μ 300 1 ≤ a1 ∧ μ 300 3 < 40 ∧ a1 ≤ 3000 ∧ 1 ≤ a2 ∧ a2 ≤ 1000000 then some (μ 300 3 + 1, up (up (up μ 306 (μ 300 3).toNat a1) 307 (μ 300 3).toNat a2) 300 3 (μ 300 3 + 1)) else some (-1, μ) := by
  by_cases hc : μ 300 1 ≤ a1 ∧ μ 300 3 < 40 ∧ a1 ≤ 3000 ∧ 1 ≤ a2 ∧ a2 ≤ 1000000
  · simp (disch := omega) only [f_X11_boat, f_X11_in, bd_some, lm_e, if_pos, if_neg, up_ne, up_at, upf_same, upf_ne, reduceIte, or_true, true_or]
  · rw [if_neg hc]
    simp (disch := omega) only [f_X11_boat, f_X11_in, bd_some, lm_e, if_pos, if_neg, up_ne, up_at, upf_same, upf_ne, reduceIte, or_true, true_or]
    (repeat' split) <;> first | rfl | (exfalso; omega)
theorem m_boat {μ : Mem} (h : Inv μ) (a1 a2 : Int) : Same0 Inv (fun μ => f_X10_boat μ a1 a2) (fun μ => f_X11_boat μ a1 a2) μ := by
  have hI := h
  obtain ⟨hb, hsp, hr, ht, htab, hs, hrf, hp, hta, hq⟩ := h
  have hs0 := hs
  obtain ⟨n1, n2, n3, -⟩ := hs0
  have hb0 := hb
  obtain ⟨b1, b2, b3, b4, b5, b6, b7⟩ := hb0
  refine same0_of ?_
  show wp (f_X10_boat μ a1 a2) _
  rw [e_boat a1 a2 b2 b3]
  by_cases hc : μ 6 9 ≤ a1 ∧ μ 2 2 < 40 ∧ 0 ≤ a1 ∧ a1 ≤ 3000 ∧ 1 ≤ a2 ∧ a2 ≤ 1000000
  · simp (disch := omega) only [bd_some, lm_e, if_pos, if_neg, up_ne, up_at, upf_same, upf_ne, reduceIte, or_true, true_or, wp_ret, wp_lm, wp_bd, wp_none]
    refine ⟨trivial, ?_⟩
    rw [e_boat2]
    · simp (disch := omega) only [bd_some, lm_e, if_pos, if_neg, up_ne, up_at, upf_same, upf_ne, reduceIte, or_true, true_or, wp_ret, wp_lm, wp_bd, wp_none]
      refine ⟨by omega, trivial, ?_⟩
      unfold Inv
      simp (disch := omega) only [bd_some, lm_e, if_pos, if_neg, up_ne, up_at, upf_same, upf_ne, reduceIte, or_true, true_or]
      refine ⟨?_, hsp, hr, ht, htab, Isite_fr hs (fun a ha => by simp (disch := omega) only [bd_some, lm_e, if_pos, if_neg, up_ne, up_at, upf_same, upf_ne, reduceIte, or_true, true_or]) (by simp (disch := omega) only [bd_some, lm_e, if_pos, if_neg, up_ne, up_at, upf_same, upf_ne, reduceIte, or_true, true_or]) (by simp (disch := omega) only [bd_some, lm_e, if_pos, if_neg, up_ne, up_at, upf_same, upf_ne, reduceIte, or_true, true_or]) (by simp (disch := omega) only [bd_some, lm_e, if_pos, if_neg, up_ne, up_at, upf_same, upf_ne, reduceIte, or_true, true_or]) (by simp (disch := omega) only [bd_some, lm_e, if_pos, if_neg, up_ne, up_at, upf_same, upf_ne, reduceIte, or_true, true_or]) (by simp (disch := omega) only [bd_some, lm_e, if_pos, if_neg, up_ne, up_at, upf_same, upf_ne, reduceIte, or_true, true_or]), Irefs_fr hrf (by simp (disch := omega) only [bd_some, lm_e, if_pos, if_neg, up_ne, up_at, upf_same, upf_ne, reduceIte, or_true, true_or]) (by simp (disch := omega) only [bd_some, lm_e, if_pos, if_neg, up_ne, up_at, upf_same, upf_ne, reduceIte, or_true, true_or]) (by simp (disch := omega) only [bd_some, lm_e, if_pos, if_neg, up_ne, up_at, upf_same, upf_ne, reduceIte, or_true, true_or]) (by simp (disch := omega) only [bd_some, lm_e, if_pos, if_neg, up_ne, up_at, upf_same, upf_ne, reduceIte, or_true, true_or]), Iplan_fr hp (fun a ha => by simp (disch := omega) only [bd_some, lm_e, if_pos, if_neg, up_ne, up_at, upf_same, upf_ne, reduceIte, or_true, true_or]), hta, hq⟩
      refine ⟨by omega, by omega, by omega, b4, b5, b6, fun i hi => ?_⟩
      by_cases hi2 : i = (μ 2 2).toNat
      · rw [b1, hi2]
        simp (disch := omega) only [bd_some, lm_e, if_pos, if_neg, up_ne, up_at, upf_same, upf_ne, reduceIte, or_true, true_or]
        and_intros <;> first | trivial | omega
      · rw [b1]
        simp (disch := omega) only [bd_some, lm_e, if_pos, if_neg, up_ne, up_at, upf_same, upf_ne, reduceIte, or_true, true_or]
        exact b7 i (by omega)
    · simp (disch := omega) only [bd_some, lm_e, if_pos, if_neg, up_ne, up_at, upf_same, upf_ne, reduceIte, or_true, true_or]
      omega
    · simp (disch := omega) only [bd_some, lm_e, if_pos, if_neg, up_ne, up_at, upf_same, upf_ne, reduceIte, or_true, true_or]
      omega
  · rw [if_neg hc]
    simp (disch := omega) only [bd_some, lm_e, if_pos, if_neg, up_ne, up_at, upf_same, upf_ne, reduceIte, or_true, true_or, wp_ret, wp_lm, wp_bd, wp_none]
    refine ⟨trivial, ?_⟩
    rw [e_boat2 a1 a2 (by omega) (by omega), if_neg (by omega)]
    exact ⟨rfl, rfl, hI⟩
