/-! FEED -/
def tapeF (μ μ' ν ν' : Mem) : Prop := (∀ b, b ≠ 3 → b ≠ 16 → μ' b = μ b) ∧ (∀ b, b ≠ 300 → b ≠ 311 → ν' b = ν b) ∧ (∀ j, j ≠ 19 → ν' 300 j = ν 300 j)
theorem tapeF_tr {μ μ1 μ2 ν ν1 ν2 : Mem} (h : tapeF μ μ1 ν ν1) (k : tapeF μ1 μ2 ν1 ν2) : tapeF μ μ2 ν ν2 := ⟨fun b h1 h2 => (k.1 b h1 h2).trans (h.1 b h1 h2), fun b h1 h2 => (k.2.1 b h1 h2).trans (h.2.1 b h1 h2), fun j hj => (k.2.2 j hj).trans (h.2.2 j hj)⟩
def tapeI (μ ν : Mem) : Prop := Itape (μ 3 1) (ν 300 19) (μ 16) (ν 311)
theorem Inv2_tape {μ ν μ' ν' : Mem} (h : Inv2 μ ν) (f : tapeF μ μ' ν ν') (t : tapeI μ' ν') : Inv2 μ' ν' := by
  obtain ⟨a1, a2, a3, a4, a5, a6, a7, a8, a9, a10⟩ := h
  obtain ⟨c, r, r3⟩ := f
  unfold Inv2
  have b6 : Isite2 μ' ν' := Isite2_fr a6 (fun a ha => c a (by unfold sC at ha; omega) (by unfold sC at ha; omega)) (fun a ha => r a (by unfold sR at ha; omega) (by unfold sR at ha; omega)) (r3 _ (by decide)) (r3 _ (by decide)) (r3 _ (by decide)) (r3 _ (by decide)) (r3 _ (by decide))
  have b7 : Irefs μ' := Irefs_fr a7 (c _ (by omega) (by omega)) (c _ (by omega) (by omega)) (c _ (by omega) (by omega)) (c _ (by omega) (by omega))
  rw [c 2 (by omega) (by omega), c 14 (by omega) (by omega), c 15 (by omega) (by omega), r3 3 (by omega), r3 4 (by omega), r3 15 (by omega), r3 33 (by omega), r3 45 (by omega), r 306 (by omega) (by omega), r 307 (by omega) (by omega), c 1 (by omega) (by omega), c 9 (by omega) (by omega), c 10 (by omega) (by omega), c 11 (by omega) (by omega), r 308 (by omega) (by omega), r 309 (by omega) (by omega), r 310 (by omega) (by omega), c 12 (by omega) (by omega), c 13 (by omega) (by omega), c 17 (by omega) (by omega), r 312 (by omega) (by omega), c 7 (by omega) (by omega), c 8 (by omega) (by omega), c 32 (by omega) (by omega), c 33 (by omega) (by omega), c 34 (by omega) (by omega), c 35 (by omega) (by omega), r 331 (by omega) (by omega), r 332 (by omega) (by omega), r 333 (by omega) (by omega), r 334 (by omega) (by omega)]
  exact ⟨a1, a2, a3, t, a5, b6, b7, Iplan2_fr a8 (fun a h1 h2 => c a (by omega) (by omega)) (fun a h1 h2 => r a (by omega) (by omega)), a9, a10⟩
theorem put_1 {x s : Int} (hs : s = 24 ∨ s = 16 ∨ s = 8 ∨ s = 0) (n m : Nat) {μ ν : Mem} (h : tapeI μ ν) (hT : μ 3 1 < 200) : ∃ μ' ν', f_X9_putNumber_3 (n + 1) x s μ = f_X9_putNumber_3 n x (s + (-8)) μ' ∧ f_X11_put_3 (m + 1) x s ν = f_X11_put_3 m x (s + (-8)) ν' ∧ tapeF μ μ' ν ν' ∧ tapeI μ' ν' ∧ μ' 3 1 = μ 3 1 + 1 := by
  have h0 := h
  unfold tapeI at h0
  obtain ⟨t1, t2, t3, t4⟩ := h0
  obtain ⟨T, hT1⟩ : ∃ T : Nat, μ 3 1 = (T : Int) := ⟨(μ 3 1).toNat, by omega⟩
  have hT2 : ν 300 19 = (T : Int) := by omega
  have hb := zi2b_b (zi2b (zshr x s))
  have he := zi2b_sh (a := x) hs
  refine ⟨up (up μ 16 T (zi2b (zi2b (zshr x s)))) 3 1 ((T : Int) + 1), up (up ν 311 T (zi2b (zi2b (zshr x s)))) 300 19 ((T : Int) + 1), ?_, ?_, ⟨fun b h1 h2 => by simp (disch := omega) only [bd_some, lm_e, if_pos, if_neg, up_ne, up_at, upf_same, upf_ne, reduceIte, or_true, true_or, Int.reduceToNat, Int.toNat_natCast, tn100, tn200], fun b h1 h2 => by simp (disch := omega) only [bd_some, lm_e, if_pos, if_neg, up_ne, up_at, upf_same, upf_ne, reduceIte, or_true, true_or, Int.reduceToNat, Int.toNat_natCast, tn100, tn200], fun j hj => by simp (disch := omega) only [bd_some, lm_e, if_pos, if_neg, up_ne, up_at, upf_same, upf_ne, reduceIte, or_true, true_or, Int.reduceToNat, Int.toNat_natCast, tn100, tn200]⟩, ?_, by simp (disch := omega) only [bd_some, lm_e, if_pos, if_neg, up_ne, up_at, upf_same, upf_ne, reduceIte, or_true, true_or, Int.reduceToNat, Int.toNat_natCast, tn100, tn200]; omega⟩
  · rw [f_X9_putNumber_3_e, he]
    simp (disch := omega) only [hT1, bd_some, lm_e, if_pos, if_neg, up_ne, up_at, upf_same, upf_ne, reduceIte, or_true, true_or, Int.reduceToNat, Int.toNat_natCast, tn100, tn200]
  · rw [f_X11_put_3_e]
    simp (disch := omega) only [hT2, bd_some, lm_e, if_pos, if_neg, up_ne, up_at, upf_same, upf_ne, reduceIte, or_true, true_or, Int.reduceToNat, Int.toNat_natCast, tn100, tn200]
  · unfold tapeI
    simp (disch := omega) only [bd_some, lm_e, if_pos, if_neg, up_ne, up_at, upf_same, upf_ne, reduceIte, or_true, true_or, Int.reduceToNat, Int.toNat_natCast, tn100, tn200]
    refine ⟨rfl, by omega, by omega, fun i hi => ?_⟩
    by_cases hi2 : i = T
    · subst hi2
      simp (disch := omega) only [bd_some, lm_e, if_pos, if_neg, up_ne, up_at, upf_same, upf_ne, reduceIte, or_true, true_or, Int.reduceToNat, Int.toNat_natCast, tn100, tn200]
      exact ⟨trivial, hb.1, hb.2⟩
    · simp (disch := omega) only [bd_some, lm_e, if_pos, if_neg, up_ne, up_at, upf_same, upf_ne, reduceIte, or_true, true_or, Int.reduceToNat, Int.toNat_natCast, tn100, tn200]
      exact t4 i (by omega)
theorem put_4 (x : Int) {μ ν : Mem} (h : tapeI μ ν) (hT : μ 3 1 + 4 ≤ 200) : ∃ μ' ν', f_X9_putNumber μ x = some (0, μ') ∧ f_X11_put ν x = some (0, ν') ∧ tapeF μ μ' ν ν' ∧ tapeI μ' ν' ∧ μ' 3 1 = μ 3 1 + 4 := by
  obtain ⟨m1, v1, a1, b1, c1, d1, e1⟩ := put_1 (x := x) (s := 24) (by omega) 63 63 h (by omega)
  obtain ⟨m2, v2, a2, b2, c2, d2, e2⟩ := put_1 (x := x) (s := 24 + (-8)) (by omega) 62 62 d1 (by omega)
  obtain ⟨m3, v3, a3, b3, c3, d3, e3⟩ := put_1 (x := x) (s := 24 + (-8) + (-8)) (by omega) 61 61 d2 (by omega)
  obtain ⟨m4, v4, a4, b4, c4, d4, e4⟩ := put_1 (x := x) (s := 24 + (-8) + (-8) + (-8)) (by omega) 60 60 d3 (by omega)
  refine ⟨m4, v4, ?_, ?_, tapeF_tr c1 (tapeF_tr c2 (tapeF_tr c3 c4)), d4, by omega⟩
  · show f_X9_putNumber_3 64 x 24 μ = _
    rw [a1, a2, a3, a4, f_X9_putNumber_3_e, if_pos (by omega)]
  · show f_X11_put_3 64 x 24 ν = _
    rw [b1, b2, b3, b4, f_X11_put_3_e, if_pos (by omega)]
theorem s_feed {μ ν : Mem} (h : Inv2 μ ν) (a b c d e : Int) : Step2 (fun μ => f_X10_feed μ a b c d e) (fun ν => f_X11_feed ν a b c d e) μ ν := by
  have hI := h
  obtain ⟨-, -, -, ht, -⟩ := h
  have ht0 : tapeI μ ν := ht
  obtain ⟨t1, t2, t3, -⟩ := ht
  by_cases hc : μ 3 1 + 20 ≤ 200
  case neg =>
    refine step2_ro hI (-1) ?_ ?_
    · unfold f_X10_feed f_X9_hasRoom
      simp (disch := omega) only [bd_some, lm_e, if_pos, if_neg, up_ne, up_at, upf_same, upf_ne, reduceIte, or_true, true_or, Int.reduceToNat, Int.toNat_natCast, tn100, tn200]
    · unfold f_X11_feed
      simp (disch := omega) only [bd_some, lm_e, if_pos, if_neg, up_ne, up_at, upf_same, upf_ne, reduceIte, or_true, true_or, Int.reduceToNat, Int.toNat_natCast, tn100, tn200]
  obtain ⟨m1, v1, a1, b1, c1, d1, e1⟩ := put_4 a ht0 (by omega)
  obtain ⟨m2, v2, a2, b2, c2, d2, e2⟩ := put_4 b d1 (by omega)
  obtain ⟨m3, v3, a3, b3, c3, d3, e3⟩ := put_4 c d2 (by omega)
  obtain ⟨m4, v4, a4, b4, c4, d4, e4⟩ := put_4 d d3 (by omega)
  obtain ⟨m5, v5, a5, b5, c5, d5, e5⟩ := put_4 e d4 (by omega)
  have F := tapeF_tr c1 (tapeF_tr c2 (tapeF_tr c3 (tapeF_tr c4 c5)))
  have h5 : v5 300 19 = m5 3 1 := d5.1
  refine step2_do (μ' := m5) (ν' := v5) (m5 3 1) ?_ ?_ (fun b hb => F.1 b (by omega) (by omega)) (F.1 90 (by omega) (by omega)) (fun b hb => F.2.1 b (by omega) (by omega)) (Inv2_tape hI F d5)
  · unfold f_X10_feed f_X9_hasRoom
    simp (disch := omega) only [a1, a2, a3, a4, a5, bd_some, lm_e, if_pos, if_neg, up_ne, up_at, upf_same, upf_ne, reduceIte, or_true, true_or, Int.reduceToNat, Int.toNat_natCast, tn100, tn200]
  · unfold f_X11_feed
    simp (disch := omega) only [b1, b2, b3, b4, b5, h5, bd_some, lm_e, if_pos, if_neg, up_ne, up_at, upf_same, upf_ne, reduceIte, or_true, true_or, Int.reduceToNat, Int.toNat_natCast, tn100, tn200]
