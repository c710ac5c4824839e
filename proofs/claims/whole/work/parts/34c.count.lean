theorem m_count {μ : Mem} (h : Inv μ) (a1 : Int) (ha : inR a1) : Same0 Inv (fun μ => f_X10_count μ a1) (fun μ => f_X11_count μ a1) μ := by
  have hI := h
  obtain ⟨⟨b1, b2, b3, b4, b5, b6, b7⟩, ⟨s1, s2, s3, -⟩, hr, ⟨t1, t2, t3, -⟩, htab, hs, hrf, hp, ⟨ta1, ta2, ta3, -⟩, hq⟩ := h
  obtain ⟨n1, n2, n3, n4, n5, n6, n7, n8, n9, n10, n11, n12, n13, n14, n15, n16, n17⟩ := Isite_b hs
  by_cases e0 : a1 = 0
  · exact same0_ro (r := μ 6 9) (by show f_X10_count μ a1 = _; simp (disch := omega) only [f_X10_count, bd_some, lm_e, if_pos, if_neg, up_ne, up_at, upf_same, upf_ne, reduceIte, or_true, true_or]) (by show f_X11_count μ a1 = _; simp (disch := omega) only [f_X11_count, f_X11_in, n1, bd_some, lm_e, if_pos, if_neg, up_ne, up_at, upf_same, upf_ne, reduceIte, or_true, true_or]) hI
  by_cases e1 : a1 = 1
  · exact same0_ro (r := μ 6 5) (by show f_X10_count μ a1 = _; simp (disch := omega) only [f_X10_count, bd_some, lm_e, if_pos, if_neg, up_ne, up_at, upf_same, upf_ne, reduceIte, or_true, true_or]) (by show f_X11_count μ a1 = _; simp (disch := omega) only [f_X11_count, f_X11_in, n4, bd_some, lm_e, if_pos, if_neg, up_ne, up_at, upf_same, upf_ne, reduceIte, or_true, true_or]) hI
  by_cases e2 : a1 = 2
  · exact same0_ro (r := μ 6 6) (by show f_X10_count μ a1 = _; simp (disch := omega) only [f_X10_count, bd_some, lm_e, if_pos, if_neg, up_ne, up_at, upf_same, upf_ne, reduceIte, or_true, true_or]) (by show f_X11_count μ a1 = _; simp (disch := omega) only [f_X11_count, f_X11_in, n8, bd_some, lm_e, if_pos, if_neg, up_ne, up_at, upf_same, upf_ne, reduceIte, or_true, true_or]) hI
  by_cases e3 : a1 = 3
  · exact same0_ro (r := μ 2 3) (by show f_X10_count μ a1 = _; simp (disch := omega) only [f_X10_count, bd_some, lm_e, if_pos, if_neg, up_ne, up_at, upf_same, upf_ne, reduceIte, or_true, true_or]) (by show f_X11_count μ a1 = _; simp (disch := omega) only [f_X11_count, f_X11_in, b4, bd_some, lm_e, if_pos, if_neg, up_ne, up_at, upf_same, upf_ne, reduceIte, or_true, true_or]) hI
  by_cases e4 : a1 = 4
  · exact same0_ro (r := μ 6 8) (by show f_X10_count μ a1 = _; simp (disch := omega) only [f_X10_count, bd_some, lm_e, if_pos, if_neg, up_ne, up_at, upf_same, upf_ne, reduceIte, or_true, true_or]) (by show f_X11_count μ a1 = _; simp (disch := omega) only [f_X11_count, f_X11_in, n12, bd_some, lm_e, if_pos, if_neg, up_ne, up_at, upf_same, upf_ne, reduceIte, or_true, true_or]) hI
  by_cases e5 : a1 = 5
  · subst e5
    exact same0_ro (r := countTo (fun k => μ 317 k = 5) (μ 6 6).toNat) (by show f_X10_count μ 5 = _; unfold f_X10_count; simp (disch := omega) only [e_stonesThatAre hs, bd_some, lm_e, if_pos, if_neg, up_ne, up_at, upf_same, upf_ne, reduceIte, or_true, true_or]) (by show f_X11_count μ 5 = _; unfold f_X11_count f_X11_in; simp (disch := omega) only [e_count hs, bd_some, lm_e, if_pos, if_neg, up_ne, up_at, upf_same, upf_ne, reduceIte, or_true, true_or]) hI
  by_cases e6 : a1 = 6
  · subst e6
    exact same0_ro (r := countTo (fun k => μ 317 k = 6) (μ 6 6).toNat) (by show f_X10_count μ 6 = _; unfold f_X10_count; simp (disch := omega) only [e_stonesThatAre hs, bd_some, lm_e, if_pos, if_neg, up_ne, up_at, upf_same, upf_ne, reduceIte, or_true, true_or]) (by show f_X11_count μ 6 = _; unfold f_X11_count f_X11_in; simp (disch := omega) only [e_count hs, bd_some, lm_e, if_pos, if_neg, up_ne, up_at, upf_same, upf_ne, reduceIte, or_true, true_or]) hI
  by_cases e7 : a1 = 7
  · exact same0_ro (r := μ 2 2) (by show f_X10_count μ a1 = _; simp (disch := omega) only [f_X10_count, bd_some, lm_e, if_pos, if_neg, up_ne, up_at, upf_same, upf_ne, reduceIte, or_true, true_or]) (by show f_X11_count μ a1 = _; simp (disch := omega) only [f_X11_count, f_X11_in, b1, bd_some, lm_e, if_pos, if_neg, up_ne, up_at, upf_same, upf_ne, reduceIte, or_true, true_or]) hI
  by_cases e8 : a1 = 8
  · exact same0_ro (r := μ 1 3) (by show f_X10_count μ a1 = _; simp (disch := omega) only [f_X10_count, bd_some, lm_e, if_pos, if_neg, up_ne, up_at, upf_same, upf_ne, reduceIte, or_true, true_or]) (by show f_X11_count μ a1 = _; simp (disch := omega) only [f_X11_count, f_X11_in, s1, bd_some, lm_e, if_pos, if_neg, up_ne, up_at, upf_same, upf_ne, reduceIte, or_true, true_or]) hI
  by_cases e9 : a1 = 9
  · exact same0_ro (r := μ 3 1) (by show f_X10_count μ a1 = _; simp (disch := omega) only [f_X10_count, bd_some, lm_e, if_pos, if_neg, up_ne, up_at, upf_same, upf_ne, reduceIte, or_true, true_or]) (by show f_X11_count μ a1 = _; simp (disch := omega) only [f_X11_count, f_X11_in, t1, bd_some, lm_e, if_pos, if_neg, up_ne, up_at, upf_same, upf_ne, reduceIte, or_true, true_or]) hI
  by_cases e10 : a1 = 10
  · exact same0_ro (r := μ 8 5) (by show f_X10_count μ a1 = _; simp (disch := omega) only [f_X10_count, bd_some, lm_e, if_pos, if_neg, up_ne, up_at, upf_same, upf_ne, reduceIte, or_true, true_or]) (by show f_X11_count μ a1 = _; simp (disch := omega) only [f_X11_count, f_X11_in, ta1, bd_some, lm_e, if_pos, if_neg, up_ne, up_at, upf_same, upf_ne, reduceIte, or_true, true_or]) hI
  by_cases e11 : a1 = 11
  · exact same0_ro (r := μ 6 10) (by show f_X10_count μ a1 = _; simp (disch := omega) only [f_X10_count, bd_some, lm_e, if_pos, if_neg, up_ne, up_at, upf_same, upf_ne, reduceIte, or_true, true_or]) (by show f_X11_count μ a1 = _; simp (disch := omega) only [f_X11_count, f_X11_in, n15, bd_some, lm_e, if_pos, if_neg, up_ne, up_at, upf_same, upf_ne, reduceIte, or_true, true_or]) hI
  by_cases ht : 20 ≤ a1 ∧ a1 ≤ 28
  · have q := htab (a1 - 20).toNat (by omega)
    exact same0_ro (r := μ 17 (a1 - 20).toNat) (by show f_X10_count μ a1 = _; simp (disch := omega) only [f_X10_count, f_X6_numberAt, bd_some, lm_e, if_pos, if_neg, up_ne, up_at, upf_same, upf_ne, reduceIte, or_true, true_or]) (by show f_X11_count μ a1 = _; simp (disch := omega) only [f_X11_count, f_X11_in, q.1, bd_some, lm_e, if_pos, if_neg, up_ne, up_at, upf_same, upf_ne, reduceIte, or_true, true_or]) hI
  · refine same0_ro (r := -1) ?_ ?_ hI
    · show f_X10_count μ a1 = _
      by_cases hn : 20 ≤ a1
      · simp (disch := omega) only [f_X10_count, f_X6_numberAt, bd_some, lm_e, if_pos, if_neg, up_ne, up_at, upf_same, upf_ne, reduceIte, or_true, true_or]
      · simp (disch := omega) only [f_X10_count, f_X6_numberAt, bd_some, lm_e, if_pos, if_neg, up_ne, up_at, upf_same, upf_ne, reduceIte, or_true, true_or]
    · show f_X11_count μ a1 = _
      by_cases hn : a1 < 20
      · simp (disch := omega) only [f_X11_count, f_X11_in, bd_some, lm_e, if_pos, if_neg, up_ne, up_at, upf_same, upf_ne, reduceIte, or_true, true_or]
      · simp (disch := omega) only [f_X11_count, f_X11_in, bd_some, lm_e, if_pos, if_neg, up_ne, up_at, upf_same, upf_ne, reduceIte, or_true, true_or]
