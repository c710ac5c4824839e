/-! READING CALLS, BOTH SIDES -/
theorem m_gangs {μ : Mem} (h : Inv μ) (a1 a2 : Int) : Same0 Inv (fun μ => f_X10_gangs μ a1 a2) (fun μ => f_X11_gangs μ a1 a2) μ := by
  have hI := h
  obtain ⟨hb, hsp, hr, ht, htab, hs, hrf, hp, hta, hq⟩ := h
  obtain ⟨n1, n2, n3, n4, n5, n6, n7, n8, n9, n10, n11, -⟩ := Isite_b hs
  by_cases hc : 0 ≤ a1 ∧ a1 < μ 6 5
  · obtain ⟨q0, q1, q2, q3, q4, q5, -⟩ := Isite_g hs a1.toNat (by omega)
    by_cases e0 : a2 = 0
    · exact same0_ro (r := μ 301 a1.toNat) (by show f_X10_gangs μ a1 a2 = _; simp (disch := omega) only [f_X10_gangs, f_X3_gangAt, q0, tn200, q1, bd_some, lm_e, if_pos, if_neg, up_ne, up_at, upf_same, upf_ne, reduceIte, or_true, true_or]) (by show f_X11_gangs μ a1 a2 = _; simp (disch := omega) only [f_X11_gangs, f_X11_in, bd_some, lm_e, if_pos, if_neg, up_ne, up_at, upf_same, upf_ne, reduceIte, or_true, true_or]) hI
    by_cases e1 : a2 = 1
    · exact same0_ro (r := μ 302 a1.toNat) (by show f_X10_gangs μ a1 a2 = _; simp (disch := omega) only [f_X10_gangs, f_X3_gangAt, q0, tn200, q2, bd_some, lm_e, if_pos, if_neg, up_ne, up_at, upf_same, upf_ne, reduceIte, or_true, true_or]) (by show f_X11_gangs μ a1 a2 = _; simp (disch := omega) only [f_X11_gangs, f_X11_in, bd_some, lm_e, if_pos, if_neg, up_ne, up_at, upf_same, upf_ne, reduceIte, or_true, true_or]) hI
    by_cases e2 : a2 = 2
    · exact same0_ro (r := μ 303 a1.toNat) (by show f_X10_gangs μ a1 a2 = _; simp (disch := omega) only [f_X10_gangs, f_X3_gangAt, q0, tn200, q3, bd_some, lm_e, if_pos, if_neg, up_ne, up_at, upf_same, upf_ne, reduceIte, or_true, true_or]) (by show f_X11_gangs μ a1 a2 = _; simp (disch := omega) only [f_X11_gangs, f_X11_in, bd_some, lm_e, if_pos, if_neg, up_ne, up_at, upf_same, upf_ne, reduceIte, or_true, true_or]) hI
    by_cases e3 : a2 = 3
    · exact same0_ro (r := μ 304 a1.toNat) (by show f_X10_gangs μ a1 a2 = _; simp (disch := omega) only [f_X10_gangs, f_X3_gangAt, q0, tn200, q4, bd_some, lm_e, if_pos, if_neg, up_ne, up_at, upf_same, upf_ne, reduceIte, or_true, true_or]) (by show f_X11_gangs μ a1 a2 = _; simp (disch := omega) only [f_X11_gangs, f_X11_in, bd_some, lm_e, if_pos, if_neg, up_ne, up_at, upf_same, upf_ne, reduceIte, or_true, true_or]) hI
    by_cases e4 : a2 = 4
    · exact same0_ro (r := μ 305 a1.toNat) (by show f_X10_gangs μ a1 a2 = _; simp (disch := omega) only [f_X10_gangs, f_X3_gangAt, q0, tn200, q5, bd_some, lm_e, if_pos, if_neg, up_ne, up_at, upf_same, upf_ne, reduceIte, or_true, true_or]) (by show f_X11_gangs μ a1 a2 = _; simp (disch := omega) only [f_X11_gangs, f_X11_in, bd_some, lm_e, if_pos, if_neg, up_ne, up_at, upf_same, upf_ne, reduceIte, or_true, true_or]) hI
    exact same0_ro (r := -1) (by show f_X10_gangs μ a1 a2 = _; simp (disch := omega) only [f_X10_gangs, f_X3_gangAt, q0, tn200, bd_some, lm_e, if_pos, if_neg, up_ne, up_at, upf_same, upf_ne, reduceIte, or_true, true_or]) (by show f_X11_gangs μ a1 a2 = _; simp (disch := omega) only [f_X11_gangs, f_X11_in, bd_some, lm_e, if_pos, if_neg, up_ne, up_at, upf_same, upf_ne, reduceIte, or_true, true_or]) hI
  · refine same0_ro (r := -1) ?_ ?_ hI
    · show f_X10_gangs μ a1 a2 = _
      by_cases hn : a1 < 0
      · simp (disch := omega) only [f_X10_gangs, f_X3_gangAt, bd_some, lm_e, if_pos, if_neg, up_ne, up_at, upf_same, upf_ne, reduceIte, or_true, true_or]
      · simp (disch := omega) only [f_X10_gangs, f_X3_gangAt, bd_some, lm_e, if_pos, if_neg, up_ne, up_at, upf_same, upf_ne, reduceIte, or_true, true_or]
    · show f_X11_gangs μ a1 a2 = _
      by_cases hn : a1 < 0
      · simp (disch := omega) only [f_X11_gangs, f_X11_in, bd_some, lm_e, if_pos, if_neg, up_ne, up_at, upf_same, upf_ne, reduceIte, or_true, true_or]
      · simp (disch := omega) only [f_X11_gangs, f_X11_in, bd_some, lm_e, if_pos, if_neg, up_ne, up_at, upf_same, upf_ne, reduceIte, or_true, true_or]
theorem m_about {μ : Mem} (h : Inv μ) (a1 a2 : Int) : Same0 Inv (fun μ => f_X10_about μ a1 a2) (fun μ => f_X11_about μ a1 a2) μ := by
  have hI := h
  obtain ⟨hb, hsp, hr, ht, htab, hs, hrf, hp, hta, hq⟩ := h
  obtain ⟨n1, n2, n3, n4, n5, n6, n7, n8, n9, n10, n11, -⟩ := Isite_b hs
  by_cases hc : 0 ≤ a1 ∧ a1 < μ 6 6
  · obtain ⟨q0, q1, q2, q3, q4, q5, -⟩ := Isite_s hs a1.toNat (by omega)
    have hw := e_worker (μ := μ) (a := a1) (r := μ (100 + a1.toNat) 3) (by omega) (by omega) (by
      have := worker_of hs a1.toNat (by omega)
      rw [show ((a1.toNat : Nat) : Int) = a1 by omega] at this
      rw [n4]; exact this)
    have hp1 := e_pullOf hs htab a1.toNat (by omega) 0
    have hp2 := e_pull hs htab (s := a1) hc.1 hc.2 (μ 317 a1.toNat) 0
    by_cases e0 : a2 = 0
    · exact same0_ro (r := μ 317 a1.toNat) (by show f_X10_about μ a1 a2 = _; simp (disch := omega) only [f_X10_about, f_X3_stoneAt, q0, tn100, q3, bd_some, lm_e, if_pos, if_neg, up_ne, up_at, upf_same, upf_ne, reduceIte, or_true, true_or]) (by show f_X11_about μ a1 a2 = _; simp (disch := omega) only [f_X11_about, f_X11_in, bd_some, lm_e, if_pos, if_neg, up_ne, up_at, upf_same, upf_ne, reduceIte, or_true, true_or]) hI
    by_cases e1 : a2 = 1
    · exact same0_ro (r := μ (100 + a1.toNat) 3) (by show f_X10_about μ a1 a2 = _; simp (disch := omega) only [f_X10_about, f_X3_stoneAt, q0, tn100, bd_some, lm_e, if_pos, if_neg, up_ne, up_at, upf_same, upf_ne, reduceIte, or_true, true_or]) (by show f_X11_about μ a1 a2 = _; simp (disch := omega) only [f_X11_about, f_X11_in, hw, bd_some, lm_e, if_pos, if_neg, up_ne, up_at, upf_same, upf_ne, reduceIte, or_true, true_or]) hI
    by_cases e2 : a2 = 2
    · exact same0_ro (r := μ 318 a1.toNat) (by show f_X10_about μ a1 a2 = _; simp (disch := omega) only [f_X10_about, f_X3_stoneAt, q0, tn100, q4, bd_some, lm_e, if_pos, if_neg, up_ne, up_at, upf_same, upf_ne, reduceIte, or_true, true_or]) (by show f_X11_about μ a1 a2 = _; simp (disch := omega) only [f_X11_about, f_X11_in, bd_some, lm_e, if_pos, if_neg, up_ne, up_at, upf_same, upf_ne, reduceIte, or_true, true_or]) hI
    by_cases e3 : a2 = 3
    · exact same0_ro (r := μ 319 a1.toNat) (by show f_X10_about μ a1 a2 = _; simp (disch := omega) only [f_X10_about, f_X3_stoneAt, q0, tn100, q5, bd_some, lm_e, if_pos, if_neg, up_ne, up_at, upf_same, upf_ne, reduceIte, or_true, true_or]) (by show f_X11_about μ a1 a2 = _; simp (disch := omega) only [f_X11_about, f_X11_in, bd_some, lm_e, if_pos, if_neg, up_ne, up_at, upf_same, upf_ne, reduceIte, or_true, true_or]) hI
    by_cases e4 : a2 = 4
    · exact same0_ro (r := pullS (μ 315 a1.toNat) (μ 317 a1.toNat) (μ 17) 0) (by show f_X10_about μ a1 a2 = _; simp (disch := omega) only [f_X10_about, f_X3_stoneAt, q0, tn100, hp1, bd_some, lm_e, if_pos, if_neg, up_ne, up_at, upf_same, upf_ne, reduceIte, or_true, true_or]) (by show f_X11_about μ a1 a2 = _; simp (disch := omega) only [f_X11_about, f_X11_in, hp2, bd_some, lm_e, if_pos, if_neg, up_ne, up_at, upf_same, upf_ne, reduceIte, or_true, true_or]) hI
    exact same0_ro (r := -1) (by show f_X10_about μ a1 a2 = _; simp (disch := omega) only [f_X10_about, f_X3_stoneAt, q0, tn100, bd_some, lm_e, if_pos, if_neg, up_ne, up_at, upf_same, upf_ne, reduceIte, or_true, true_or]) (by show f_X11_about μ a1 a2 = _; simp (disch := omega) only [f_X11_about, f_X11_in, bd_some, lm_e, if_pos, if_neg, up_ne, up_at, upf_same, upf_ne, reduceIte, or_true, true_or]) hI
  · refine same0_ro (r := -1) ?_ ?_ hI
    · show f_X10_about μ a1 a2 = _
      by_cases hn : a1 < 0
      · simp (disch := omega) only [f_X10_about, f_X3_stoneAt, bd_some, lm_e, if_pos, if_neg, up_ne, up_at, upf_same, upf_ne, reduceIte, or_true, true_or]
      · simp (disch := omega) only [f_X10_about, f_X3_stoneAt, bd_some, lm_e, if_pos, if_neg, up_ne, up_at, upf_same, upf_ne, reduceIte, or_true, true_or]
    · show f_X11_about μ a1 a2 = _
      by_cases hn : a1 < 0
      · simp (disch := omega) only [f_X11_about, f_X11_in, bd_some, lm_e, if_pos, if_neg, up_ne, up_at, upf_same, upf_ne, reduceIte, or_true, true_or]
      · simp (disch := omega) only [f_X11_about, f_X11_in, bd_some, lm_e, if_pos, if_neg, up_ne, up_at, upf_same, upf_ne, reduceIte, or_true, true_or]
theorem m_planned {μ : Mem} (h : Inv μ) (a1 a2 : Int) : Same0 Inv (fun μ => f_X10_planned μ a1 a2) (fun μ => f_X11_planned μ a1 a2) μ := by
  have hI := h
  obtain ⟨hb, hsp, hr, ht, htab, hs, hrf, ⟨p1, p2, p3, p4⟩, hta, hq⟩ := h
  by_cases hc : 0 ≤ a1 ∧ a1 < μ 7 17
  · obtain ⟨q0, q1, q2, q3⟩ := p4 a1.toNat (by omega)
    by_cases e0 : a2 = 0
    · subst e0
      exact same0_ro (r := μ 325 a1.toNat) (by show f_X10_planned μ a1 0 = _; simp (disch := omega) only [f_X10_planned, f_X1_tell, tn45, bd_some, lm_e, if_pos, if_neg, up_ne, up_at, upf_same, upf_ne, reduceIte, or_true, true_or]; exact congrArg (fun z => some (z, μ)) q0) (by show f_X11_planned μ a1 0 = _; simp (disch := omega) only [f_X11_planned, f_X11_in, bd_some, lm_e, if_pos, if_neg, up_ne, up_at, upf_same, upf_ne, reduceIte, or_true, true_or]) hI
    by_cases e1 : a2 = 1
    · subst e1
      exact same0_ro (r := μ 326 a1.toNat) (by show f_X10_planned μ a1 1 = _; simp (disch := omega) only [f_X10_planned, f_X1_tell, tn45, bd_some, lm_e, if_pos, if_neg, up_ne, up_at, upf_same, upf_ne, reduceIte, or_true, true_or]; exact congrArg (fun z => some (z, μ)) q1) (by show f_X11_planned μ a1 1 = _; simp (disch := omega) only [f_X11_planned, f_X11_in, bd_some, lm_e, if_pos, if_neg, up_ne, up_at, upf_same, upf_ne, reduceIte, or_true, true_or]) hI
    by_cases e2 : a2 = 2
    · subst e2
      exact same0_ro (r := μ 327 a1.toNat) (by show f_X10_planned μ a1 2 = _; simp (disch := omega) only [f_X10_planned, f_X1_tell, tn45, bd_some, lm_e, if_pos, if_neg, up_ne, up_at, upf_same, upf_ne, reduceIte, or_true, true_or]; exact congrArg (fun z => some (z, μ)) q2) (by show f_X11_planned μ a1 2 = _; simp (disch := omega) only [f_X11_planned, f_X11_in, bd_some, lm_e, if_pos, if_neg, up_ne, up_at, upf_same, upf_ne, reduceIte, or_true, true_or]) hI
    by_cases e3 : a2 = 3
    · subst e3
      exact same0_ro (r := μ 328 a1.toNat) (by show f_X10_planned μ a1 3 = _; simp (disch := omega) only [f_X10_planned, f_X1_tell, tn45, bd_some, lm_e, if_pos, if_neg, up_ne, up_at, upf_same, upf_ne, reduceIte, or_true, true_or]; exact congrArg (fun z => some (z, μ)) q3) (by show f_X11_planned μ a1 3 = _; simp (disch := omega) only [f_X11_planned, f_X11_in, bd_some, lm_e, if_pos, if_neg, up_ne, up_at, upf_same, upf_ne, reduceIte, or_true, true_or]) hI
    refine same0_ro (r := -1) ?_ ?_ hI
    · show f_X10_planned μ a1 a2 = _
      by_cases hn : a2 < 0
      · simp (disch := omega) only [f_X10_planned, f_X1_tell, bd_some, lm_e, if_pos, if_neg, up_ne, up_at, upf_same, upf_ne, reduceIte, or_true, true_or]
      · simp (disch := omega) only [f_X10_planned, f_X1_tell, bd_some, lm_e, if_pos, if_neg, up_ne, up_at, upf_same, upf_ne, reduceIte, or_true, true_or]
    · show f_X11_planned μ a1 a2 = _
      simp (disch := omega) only [f_X11_planned, f_X11_in, bd_some, lm_e, if_pos, if_neg, up_ne, up_at, upf_same, upf_ne, reduceIte, or_true, true_or]
  · refine same0_ro (r := -1) ?_ ?_ hI
    · show f_X10_planned μ a1 a2 = _
      by_cases hn : a1 < 0
      · simp (disch := omega) only [f_X10_planned, f_X1_tell, bd_some, lm_e, if_pos, if_neg, up_ne, up_at, upf_same, upf_ne, reduceIte, or_true, true_or]
      · simp (disch := omega) only [f_X10_planned, f_X1_tell, bd_some, lm_e, if_pos, if_neg, up_ne, up_at, upf_same, upf_ne, reduceIte, or_true, true_or]
    · show f_X11_planned μ a1 a2 = _
      by_cases hn : a1 < 0
      · simp (disch := omega) only [f_X11_planned, f_X11_in, bd_some, lm_e, if_pos, if_neg, up_ne, up_at, upf_same, upf_ne, reduceIte, or_true, true_or]
      · simp (disch := omega) only [f_X11_planned, f_X11_in, bd_some, lm_e, if_pos, if_neg, up_ne, up_at, upf_same, upf_ne, reduceIte, or_true, true_or]
