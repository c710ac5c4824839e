/-! TABLE: the call -/
theorem c_begin : ∀ (d n v : Nat) (μ : Mem), v + d = 9 → d < n → ∃ μ', f_X7_begin_2 n (v : Int) μ = f_X7_begin_36 μ' ∧ (∀ a, a ≠ 18 → μ' a = μ a) ∧ (∀ k, k < v → μ' 18 k = μ 18 k) ∧ (∀ k, v ≤ k → k < 9 → μ' 18 k = kWithout.getD k 0)
  | 0, n + 1, v, μ, h1, h2 => by
    refine ⟨μ, ?_, fun _ _ => rfl, fun _ _ => rfl, fun k k1 k2 => by omega⟩
    rw [f_X7_begin_2_e, if_pos (by omega)]
  | d + 1, n + 1, v, μ, h1, h2 => by
    obtain ⟨μ', e1, e2, e3, e4⟩ := c_begin d n (v + 1) (up μ 18 v (kWithout.getD v 0)) (by omega) (by omega)
    refine ⟨μ', ?_, fun a ha => by rw [e2 a ha]; simp (disch := omega) only [bd_some, lm_e, if_pos, if_neg, up_ne, up_at, upf_same, upf_ne, reduceIte, or_true, true_or, Int.reduceToNat, Int.toNat_natCast, tn100, tn200], fun k hk => by rw [e3 k (by omega)]; simp (disch := omega) only [bd_some, lm_e, if_pos, if_neg, up_ne, up_at, upf_same, upf_ne, reduceIte, or_true, true_or, Int.reduceToNat, Int.toNat_natCast, tn100, tn200], fun k k1 k2 => ?_⟩
    · rw [f_X7_begin_2_e, if_neg (by omega), if_neg (by omega), if_pos (by omega), lm_e, if_pos (by omega), Int.toNat_natCast, show (v : Int) + 1 = ((v + 1 : Nat) : Int) by omega, e1]
    · by_cases e : k = v
      · subst e
        rw [e3 k (by omega)]
        simp (disch := omega) only [bd_some, lm_e, if_pos, if_neg, up_ne, up_at, upf_same, upf_ne, reduceIte, or_true, true_or, Int.reduceToNat, Int.toNat_natCast, tn100, tn200]
      · exact e4 k (by omega) k2
theorem r_without {ν : Mem} : ∀ k : Nat, k < 9 → f_X11_without ν (k : Int) = some (kWithout.getD k 0, ν) := by
  intro k hk
  have h : k = 0 ∨ k = 1 ∨ k = 2 ∨ k = 3 ∨ k = 4 ∨ k = 5 ∨ k = 6 ∨ k = 7 ∨ k = 8 := by omega
  rcases h with h | h | h | h | h | h | h | h | h <;> subst h <;> rfl
theorem r_begin : ∀ (d n v : Nat) (ν : Mem), v + d = 9 → d < n → ∃ ν', f_X11_table_14 n 0 (v : Int) ν = bd (f_X11_isOver ν') (fun r2 μ3 => if r2 = 0 then (f_X11_table_56 64 0 1 μ3) else (f_X11_table_56 64 0 0 μ3)) ∧ (∀ a, a ≠ 313 → a ≠ 314 → ν' a = ν a) ∧ (∀ k, k < v → ν' 313 k = ν 313 k ∧ ν' 314 k = ν 314 k) ∧ (∀ k, v ≤ k → k < 9 → ν' 313 k = kWithout.getD k 0 ∧ ν' 314 k = 0)
  | 0, n + 1, v, ν, h1, h2 => by
    refine ⟨ν, ?_, fun _ _ _ => rfl, fun _ _ => ⟨rfl, rfl⟩, fun k k1 k2 => by omega⟩
    rw [f_X11_table_14_e, if_pos (by omega)]
  | d + 1, n + 1, v, ν, h1, h2 => by
    obtain ⟨ν', e1, e2, e3, e4⟩ := r_begin d n (v + 1) (up (up ν 314 v 0) 313 v (kWithout.getD v 0)) (by omega) (by omega)
    have z01 : zand 0 1 = 0 := by decide +kernel
    refine ⟨ν', ?_, fun a ha hb => by rw [e2 a ha hb]; simp (disch := omega) only [bd_some, lm_e, if_pos, if_neg, up_ne, up_at, upf_same, upf_ne, reduceIte, or_true, true_or, Int.reduceToNat, Int.toNat_natCast, tn100, tn200], fun k hk => by rw [(e3 k (by omega)).1, (e3 k (by omega)).2]; simp (disch := omega) only [bd_some, lm_e, if_pos, if_neg, up_ne, up_at, upf_same, upf_ne, reduceIte, or_true, true_or, Int.reduceToNat, Int.toNat_natCast, tn100, tn200]; exact ⟨trivial, trivial⟩, fun k k1 k2 => ?_⟩
    · rw [f_X11_table_14_e, if_neg (by omega), if_pos (by omega), z01, lm_e, Int.toNat_natCast, r_without v (by omega), bd_some, lm_e, if_pos (by omega), show (v : Int) + 1 = ((v + 1 : Nat) : Int) by omega, e1]
    · by_cases e : k = v
      · subst e
        rw [(e3 k (by omega)).1, (e3 k (by omega)).2]
        simp (disch := omega) only [bd_some, lm_e, if_pos, if_neg, up_ne, up_at, upf_same, upf_ne, reduceIte, or_true, true_or, Int.reduceToNat, Int.toNat_natCast, tn100, tn200]
        exact ⟨trivial, trivial⟩
      · exact e4 k (by omega) k2
theorem c_take : ∀ (d n v : Nat) (μ : Mem), v + d = 9 → d < n → ∃ μ', f_X6_takeNumbers_2 n (v : Int) μ = some (0, μ') ∧ (∀ a, a ≠ 17 → μ' a = μ a) ∧ (∀ k, k < v → μ' 17 k = μ 17 k) ∧ (∀ k, v ≤ k → k < 9 → μ' 17 k = μ 18 k)
  | 0, n + 1, v, μ, h1, h2 => by
    refine ⟨μ, ?_, fun _ _ => rfl, fun _ _ => rfl, fun k k1 k2 => by omega⟩
    rw [f_X6_takeNumbers_2_e, if_pos (by omega)]
  | d + 1, n + 1, v, μ, h1, h2 => by
    obtain ⟨μ', e1, e2, e3, e4⟩ := c_take d n (v + 1) (up μ 17 v (μ 18 v)) (by omega) (by omega)
    refine ⟨μ', ?_, fun a ha => by rw [e2 a ha]; simp (disch := omega) only [bd_some, lm_e, if_pos, if_neg, up_ne, up_at, upf_same, upf_ne, reduceIte, or_true, true_or, Int.reduceToNat, Int.toNat_natCast, tn100, tn200], fun k hk => by rw [e3 k (by omega)]; simp (disch := omega) only [bd_some, lm_e, if_pos, if_neg, up_ne, up_at, upf_same, upf_ne, reduceIte, or_true, true_or, Int.reduceToNat, Int.toNat_natCast, tn100, tn200], fun k k1 k2 => ?_⟩
    · rw [f_X6_takeNumbers_2_e, if_neg (by omega), if_neg (by omega), if_pos (by omega), lm_e, if_pos (by omega), Int.toNat_natCast, show (v : Int) + 1 = ((v + 1 : Nat) : Int) by omega, e1]
    · by_cases e : k = v
      · subst e
        rw [e3 k (by omega)]
        simp (disch := omega) only [bd_some, lm_e, if_pos, if_neg, up_ne, up_at, upf_same, upf_ne, reduceIte, or_true, true_or, Int.reduceToNat, Int.toNat_natCast, tn100, tn200]
      · rw [e4 k (by omega) k2]
        simp (disch := omega) only [bd_some, lm_e, if_pos, if_neg, up_ne, up_at, upf_same, upf_ne, reduceIte, or_true, true_or, Int.reduceToNat, Int.toNat_natCast, tn100, tn200]
theorem r_take {j : Int} : ∀ (d n v : Nat) (ν : Mem), v + d = 9 → d < n → ∃ ν', f_X11_table_156 n j (v : Int) ν = some (j, ν') ∧ (∀ a, a ≠ 312 → ν' a = ν a) ∧ (∀ k, k < v → ν' 312 k = ν 312 k) ∧ (∀ k, v ≤ k → k < 9 → ν' 312 k = ν 313 k)
  | 0, n + 1, v, ν, h1, h2 => by
    refine ⟨ν, ?_, fun _ _ => rfl, fun _ _ => rfl, fun k k1 k2 => by omega⟩
    rw [f_X11_table_156_e, if_pos (by omega)]
  | d + 1, n + 1, v, ν, h1, h2 => by
    obtain ⟨ν', e1, e2, e3, e4⟩ := r_take (j := j) d n (v + 1) (up ν 312 v (ν 313 v)) (by omega) (by omega)
    refine ⟨ν', ?_, fun a ha => by rw [e2 a ha]; simp (disch := omega) only [bd_some, lm_e, if_pos, if_neg, up_ne, up_at, upf_same, upf_ne, reduceIte, or_true, true_or, Int.reduceToNat, Int.toNat_natCast, tn100, tn200], fun k hk => by rw [e3 k (by omega)]; simp (disch := omega) only [bd_some, lm_e, if_pos, if_neg, up_ne, up_at, upf_same, upf_ne, reduceIte, or_true, true_or, Int.reduceToNat, Int.toNat_natCast, tn100, tn200], fun k k1 k2 => ?_⟩
    · rw [f_X11_table_156_e, if_neg (by omega), if_pos (by omega), lm_e, if_pos (by omega), Int.toNat_natCast, show (v : Int) + 1 = ((v + 1 : Nat) : Int) by omega, e1]
    · by_cases e : k = v
      · subst e
        rw [e3 k (by omega)]
        simp (disch := omega) only [bd_some, lm_e, if_pos, if_neg, up_ne, up_at, upf_same, upf_ne, reduceIte, or_true, true_or, Int.reduceToNat, Int.toNat_natCast, tn100, tn200]
      · rw [e4 k (by omega) k2]
        simp (disch := omega) only [bd_some, lm_e, if_pos, if_neg, up_ne, up_at, upf_same, upf_ne, reduceIte, or_true, true_or, Int.reduceToNat, Int.toNat_natCast, tn100, tn200]
theorem Inv2_tab {μ ν μ' ν' : Mem} (h : Inv2 μ ν) (c : ∀ a, a ≠ 3 → a ≠ 5 → a ≠ 17 → a ≠ 18 → μ' a = μ a) (r : ∀ a, a ≠ 300 → a ≠ 312 → a ≠ 313 → a ≠ 314 → ν' a = ν a) (r3 : ∀ j, j ≠ 19 → j ≠ 20 → j ≠ 21 → j ≠ 22 → ν' 300 j = ν 300 j) (ht : Itape (μ' 3 1) (ν' 300 19) (μ' 16) (ν' 311)) (hb : Itab (μ' 17) (ν' 312)) : Inv2 μ' ν' := by
  obtain ⟨a1, a2, a3, a4, a5, a6, a7, a8, a9, a10⟩ := h
  unfold Inv2
  have b6 : Isite2 μ' ν' := Isite2_fr a6 (fun a ha => by unfold sC at ha; exact c a (by omega) (by omega) (by omega) (by omega)) (fun a ha => by unfold sR at ha; exact r a (by omega) (by omega) (by omega) (by omega)) (r3 _ (by decide) (by decide) (by decide) (by decide)) (r3 _ (by decide) (by decide) (by decide) (by decide)) (r3 _ (by decide) (by decide) (by decide) (by decide)) (r3 _ (by decide) (by decide) (by decide) (by decide)) (r3 _ (by decide) (by decide) (by decide) (by decide))
  have b7 : Irefs μ' := Irefs_fr a7 (c _ (by decide) (by decide) (by decide) (by decide)) (c _ (by decide) (by decide) (by decide) (by decide)) (c _ (by decide) (by decide) (by decide) (by decide)) (c _ (by decide) (by decide) (by decide) (by decide))
  have C : ∀ a, a ≠ 3 ∧ a ≠ 5 ∧ a ≠ 17 ∧ a ≠ 18 → μ' a = μ a := fun a h => c a h.1 h.2.1 h.2.2.1 h.2.2.2
  have R : ∀ a, a ≠ 300 ∧ a ≠ 312 ∧ a ≠ 313 ∧ a ≠ 314 → ν' a = ν a := fun a h => r a h.1 h.2.1 h.2.2.1 h.2.2.2
  have R3 : ∀ j, j ≠ 19 ∧ j ≠ 20 ∧ j ≠ 21 ∧ j ≠ 22 → ν' 300 j = ν 300 j := fun j h => r3 j h.1 h.2.1 h.2.2.1 h.2.2.2
  rw [C 2 (by decide), C 14 (by decide), C 15 (by decide), R3 3 (by decide), R3 4 (by decide), R3 15 (by decide), R3 33 (by decide), R3 45 (by decide), R 306 (by decide), R 307 (by decide), C 1 (by decide), C 9 (by decide), C 10 (by decide), C 11 (by decide), R 308 (by decide), R 309 (by decide), R 310 (by decide), C 12 (by decide), C 13 (by decide), C 7 (by decide), C 8 (by decide), C 32 (by decide), C 33 (by decide), C 34 (by decide), C 35 (by decide), R 331 (by decide), R 332 (by decide), R 333 (by decide), R 334 (by decide)]
  exact ⟨a1, a2, a3, ht, hb, b6, b7, Iplan2_fr a8 (fun a h1 h2 => C a (by omega)) (fun a h1 h2 => R a (by omega)), a9, a10⟩
theorem kW_b : ∀ k : Nat, k < 9 → 1 ≤ kWithout.getD k 0 ∧ kWithout.getD k 0 ≤ 200 ∧ (k < 7 → kWithout.getD k 0 ≤ 99) := by decide +kernel
set_option maxHeartbeats 4000000 in
theorem s_table {μ ν : Mem} (h : Inv2 μ ν) : Step2 (fun μ => f_X10_table μ) (fun ν => f_X11_table ν) μ ν := by
  have hI := h
  obtain ⟨-, -, -, htp, htab, -⟩ := h
  obtain ⟨t1, t2, t3, t4⟩ := htp
  obtain ⟨T, hT⟩ : ∃ T : Nat, μ 3 1 = (T : Int) := ⟨(μ 3 1).toNat, by omega⟩
  have hTn : ν 300 19 = (T : Int) := by omega
  have hT2 : T ≤ 200 := by omega
  have hb : ∀ i, i < T → -128 ≤ μ 16 i ∧ μ 16 i < 128 := fun i hi => (t4 i (by omega)).2
  -- the beginnings
  obtain ⟨μ0, c1, c2, -, c4⟩ := c_begin 9 64 0 μ rfl (by decide)
  rw [show ((0 : Nat) : Int) = 0 from rfl] at c1
  obtain ⟨ν0, r1, r2, -, r4⟩ := r_begin 9 64 0 (up (up ν 300 20 0) 300 22 0) rfl (by decide)
  rw [show ((0 : Nat) : Int) = 0 from rfl] at r1
  have cb : f_X7_begin μ = some (0, up (up (up (up μ0 5 2 0) 5 3 0) 5 4 0) 5 5 (-1)) := by
    show f_X7_begin_2 64 0 μ = _
    rw [c1]; rfl
  have tC : tbC T (μ 16) (up (up (up (up μ0 5 2 0) 5 3 0) 5 4 0) 5 5 (-1)) := by
    unfold tbC
    simp (disch := omega) only [bd_some, lm_e, if_pos, if_neg, up_ne, up_at, upf_same, upf_ne, reduceIte, or_true, true_or, Int.reduceToNat, Int.toNat_natCast, tn100, tn200]
    rw [c2 3 (by decide), c2 16 (by decide)]
    exact ⟨hT, fun _ _ => rfl⟩
  have tR : tbR T (μ 16) ν0 := by
    unfold tbR
    rw [r2 300 (by decide) (by decide), r2 311 (by decide) (by decide)]
    simp (disch := omega) only [bd_some, lm_e, if_pos, if_neg, up_ne, up_at, upf_same, upf_ne, reduceIte, or_true, true_or, Int.reduceToNat, Int.toNat_natCast, tn100, tn200]
    exact ⟨hTn, fun i hi => (t4 i (by omega)).1⟩
  obtain ⟨s, hs⟩ := runT_ex (P := fun z => z = 32) (T := T) (b := μ 16) (T - 0) 0 (by omega)
  have hsT := hs.2.1
  have sk := c_skipB hT2 hb tC (p := 0) (by simp (disch := omega) only [bd_some, lm_e, if_pos, if_neg, up_ne, up_at, upf_same, upf_ne, reduceIte, or_true, true_or, Int.reduceToNat, Int.toNat_natCast, tn100, tn200]; rfl) hs
  have ov := r_over hT2 tR (p := 0) (by rw [r2 300 (by decide) (by decide)]; simp (disch := omega) only [bd_some, lm_e, if_pos, if_neg, up_ne, up_at, upf_same, upf_ne, reduceIte, or_true, true_or, Int.reduceToNat, Int.toNat_natCast, tn100, tn200]; rfl) hs
  have e54 : up (up (up (up (up μ0 5 2 0) 5 3 0) 5 4 0) 5 5 (-1)) 5 4 (s : Int) 5 4 = (s : Int) := by simp (disch := omega) only [bd_some, lm_e, if_pos, if_neg, up_ne, up_at, upf_same, upf_ne, reduceIte, or_true, true_or, Int.reduceToNat, Int.toNat_natCast, tn100, tn200]
  have e31 : up (up (up (up (up μ0 5 2 0) 5 3 0) 5 4 0) 5 5 (-1)) 5 4 (s : Int) 3 1 = (T : Int) := by
    simp (disch := omega) only [bd_some, lm_e, if_pos, if_neg, up_ne, up_at, upf_same, upf_ne, reduceIte, or_true, true_or, Int.reduceToNat, Int.toNat_natCast, tn100, tn200]
    rw [c2 3 (by decide)]; exact hT
  have rt : f_X7_readTape μ = f_X7_readTape_30 64 (if s = T then 0 else 1) 0 (up (up (up (up (up μ0 5 2 0) 5 3 0) 5 4 0) 5 5 (-1)) 5 4 (s : Int)) := by
    unfold f_X7_readTape
    rw [cb, bd_some, sk, bd_some, e54, e31]
    by_cases e : s = T
    · rw [if_pos (by omega), if_pos e]
    · rw [if_neg (by omega), if_neg e]
  have rr : f_X11_table ν = f_X11_table_56 64 0 (if s = T then 0 else 1) (up (up ν0 300 20 (s : Int)) 300 21 (s : Int)) := by
    unfold f_X11_table
    rw [lm_e, lm_e, r1, ov, bd_some]
    by_cases e : s = T
    · rw [b2i_t e, if_neg (by decide), if_pos e]
    · rw [b2i_f e, if_pos rfl, if_neg e]
  -- what the readers come to
  have key : ∃ (j : Int) (μ' ν' : Mem), f_X7_readTape μ = some (μ' 5 5, μ') ∧ f_X11_table ν = f_X11_table_134 j ν' ∧ cF μ μ' ∧ rF ν ν' ∧ ((1 ≤ ν' 300 22 ∧ ν' 300 22 ≤ 900 ∧ μ' 5 5 = ν' 300 22) ∨ (ν' 300 22 = 0 ∧ μ' 5 5 = -1 ∧ μ' 5 2 = j ∧ numI μ' ν')) := by
    have fc : cF μ (up (up (up (up (up μ0 5 2 0) 5 3 0) 5 4 0) 5 5 (-1)) 5 4 (s : Int)) := fun a a1 a2 => by
      simp (disch := omega) only [bd_some, lm_e, if_pos, if_neg, up_ne, up_at, upf_same, upf_ne, reduceIte, or_true, true_or, Int.reduceToNat, Int.toNat_natCast, tn100, tn200]
      exact c2 a a2
    have fr : rF ν (up (up ν0 300 20 (s : Int)) 300 21 (s : Int)) := by
      refine ⟨fun a a1 a2 a3 => ?_, fun j j1 j2 j3 => ?_⟩
      · simp (disch := omega) only [bd_some, lm_e, if_pos, if_neg, up_ne, up_at, upf_same, upf_ne, reduceIte, or_true, true_or, Int.reduceToNat, Int.toNat_natCast, tn100, tn200]
        rw [r2 a a2 a3]
        simp (disch := omega) only [bd_some, lm_e, if_pos, if_neg, up_ne, up_at, upf_same, upf_ne, reduceIte, or_true, true_or, Int.reduceToNat, Int.toNat_natCast, tn100, tn200]
      · simp (disch := omega) only [bd_some, lm_e, if_pos, if_neg, up_ne, up_at, upf_same, upf_ne, reduceIte, or_true, true_or, Int.reduceToNat, Int.toNat_natCast, tn100, tn200]
        rw [r2 300 (by decide) (by decide)]
        simp (disch := omega) only [bd_some, lm_e, if_pos, if_neg, up_ne, up_at, upf_same, upf_ne, reduceIte, or_true, true_or, Int.reduceToNat, Int.toNat_natCast, tn100, tn200]
    have e22 : up (up ν0 300 20 (s : Int)) 300 21 (s : Int) 300 22 = 0 := by
      simp (disch := omega) only [bd_some, lm_e, if_pos, if_neg, up_ne, up_at, upf_same, upf_ne, reduceIte, or_true, true_or, Int.reduceToNat, Int.toNat_natCast, tn100, tn200]
      rw [r2 300 (by decide) (by decide)]
      simp (disch := omega) only [bd_some, lm_e, if_pos, if_neg, up_ne, up_at, upf_same, upf_ne, reduceIte, or_true, true_or, Int.reduceToNat, Int.toNat_natCast, tn100, tn200]
    have nI : numI (up (up (up (up (up μ0 5 2 0) 5 3 0) 5 4 0) 5 5 (-1)) 5 4 (s : Int)) (up (up ν0 300 20 (s : Int)) 300 21 (s : Int)) := by
      unfold numI
      simp (disch := omega) only [bd_some, lm_e, if_pos, if_neg, up_ne, up_at, upf_same, upf_ne, reduceIte, or_true, true_or, Int.reduceToNat, Int.toNat_natCast, tn100, tn200]
      intro k hk
      rw [c4 k (by omega) hk, (r4 k (by omega) hk).1]
      exact ⟨rfl, kW_b k hk⟩
    by_cases e : s = T
    · rw [if_pos e] at rt rr
      refine ⟨0, _, _, ?_, ?_, fc, fr, Or.inr ⟨e22, by simp (disch := omega) only [bd_some, lm_e, if_pos, if_neg, up_ne, up_at, upf_same, upf_ne, reduceIte, or_true, true_or, Int.reduceToNat, Int.toNat_natCast, tn100, tn200], by simp (disch := omega) only [bd_some, lm_e, if_pos, if_neg, up_ne, up_at, upf_same, upf_ne, reduceIte, or_true, true_or, Int.reduceToNat, Int.toNat_natCast, tn100, tn200], nI⟩⟩
      · rw [rt, f_X7_readTape_30_e, if_pos rfl]
      · rw [rr, r_end0]
    · rw [if_neg e] at rt rr
      have hTI : TI T (μ 16) 0 s (up (up (up (up (up μ0 5 2 0) 5 3 0) 5 4 0) 5 5 (-1)) 5 4 (s : Int)) (up (up ν0 300 20 (s : Int)) 300 21 (s : Int)) := by
        refine ⟨⟨tbC_up tC (by decide) (by decide), tbR_up (tbR_up tR (Or.inr (by decide)) (by decide)) (Or.inr (by decide)) (by decide)⟩, ⟨e54, by simp (disch := omega) only [bd_some, lm_e, if_pos, if_neg, up_ne, up_at, upf_same, upf_ne, reduceIte, or_true, true_or, Int.reduceToNat, Int.toNat_natCast, tn100, tn200], hsT⟩, ⟨by simp (disch := omega) only [bd_some, lm_e, if_pos, if_neg, up_ne, up_at, upf_same, upf_ne, reduceIte, or_true, true_or, Int.reduceToNat, Int.toNat_natCast, tn100, tn200], e22, by simp (disch := omega) only [bd_some, lm_e, if_pos, if_neg, up_ne, up_at, upf_same, upf_ne, reduceIte, or_true, true_or, Int.reduceToNat, Int.toNat_natCast, tn100, tn200]; rfl⟩, nI, by simp (disch := omega) only [bd_some, lm_e, if_pos, if_neg, up_ne, up_at, upf_same, upf_ne, reduceIte, or_true, true_or, Int.reduceToNat, Int.toNat_natCast, tn100, tn200]; decide, ?_, ?_⟩
        · simp (disch := omega) only [bd_some, lm_e, if_pos, if_neg, up_ne, up_at, upf_same, upf_ne, reduceIte, or_true, true_or, Int.reduceToNat, Int.toNat_natCast, tn100, tn200]
          intro c hc
          have := kap_b hc
          rw [(r4 (kap c) (by omega) this).2]
          unfold tldP
          simp
        · simp (disch := omega) only [bd_some, lm_e, if_pos, if_neg, up_ne, up_at, upf_same, upf_ne, reduceIte, or_true, true_or, Int.reduceToNat, Int.toNat_natCast, tn100, tn200]
          have hz : ∀ n : Nat, countTo (tldP 0) n = 0 := by
            intro n
            induction n with
            | zero => rfl
            | succ n ih =>
              show countTo (tldP 0) n + b2i (tldP 0 n) = 0
              rw [ih, b2i_f (by unfold tldP; simp)]
              rfl
          exact hz 7
      obtain ⟨j, μ', ν', k1, k2, k3, k4, k5⟩ := clauses hT2 hb 8 64 64 0 s _ _ rfl (by decide) (by decide) hTI
      exact ⟨j, μ', ν', rt.trans k1, rr.trans k2, cF_tr fc k3, rF_tr fr k4, k5⟩
  obtain ⟨j, μ', ν', k1, k2, k3, k4, k5⟩ := key
  have kf : f_X9_keepFirst μ' 0 = some (0, up μ' 3 1 0) := by
    unfold f_X9_keepFirst
    rw [if_neg (by decide), if_pos (by rw [k3 3 (by decide) (by decide)]; omega), lm_e]
  have hIt : ∀ (m n : Mem), m 3 1 = 0 → n 300 19 = 0 → Itape (m 3 1) (n 300 19) (m 16) (n 311) := by
    intro m n e1 e2
    rw [e1, e2]
    exact ⟨rfl, by decide, by decide, fun i hi => by omega⟩
  rcases k5 with ⟨q1, q2, q3⟩ | ⟨q1, q2, q3, q4⟩
  · refine step2_do (μ' := up μ' 3 1 0) (ν' := up ν' 300 19 0) (-2 - ν' 300 22) ?_ ?_ (fun a ha => ?_) ?_ (fun a ha => ?_) ?_
    · show f_X10_table μ = _
      unfold f_X10_table
      rw [k1, bd_some, kf, bd_some, if_neg (by omega), if_pos (by omega), q3]
    · show f_X11_table ν = _
      rw [k2]
      unfold f_X11_table_134
      rw [lm_e, show up ν' 300 19 0 300 22 = ν' 300 22 by simp (disch := omega) only [bd_some, lm_e, if_pos, if_neg, up_ne, up_at, upf_same, upf_ne, reduceIte, or_true, true_or, Int.reduceToNat, Int.toNat_natCast, tn100, tn200], if_neg (by omega), if_pos (by omega)]
    · simp (disch := omega) only [bd_some, lm_e, if_pos, if_neg, up_ne, up_at, upf_same, upf_ne, reduceIte, or_true, true_or, Int.reduceToNat, Int.toNat_natCast, tn100, tn200]
      exact k3 a (by omega) (by omega)
    · simp (disch := omega) only [bd_some, lm_e, if_pos, if_neg, up_ne, up_at, upf_same, upf_ne, reduceIte, or_true, true_or, Int.reduceToNat, Int.toNat_natCast, tn100, tn200]
      exact k3 90 (by omega) (by omega)
    · simp (disch := omega) only [bd_some, lm_e, if_pos, if_neg, up_ne, up_at, upf_same, upf_ne, reduceIte, or_true, true_or, Int.reduceToNat, Int.toNat_natCast, tn100, tn200]
      exact k4.1 a (by omega) (by omega) (by omega)
    · refine Inv2_tab hI (fun a a1 a2 a3 a4 => by simp (disch := omega) only [bd_some, lm_e, if_pos, if_neg, up_ne, up_at, upf_same, upf_ne, reduceIte, or_true, true_or, Int.reduceToNat, Int.toNat_natCast, tn100, tn200]; exact k3 a a2 a4) (fun a a1 a2 a3 a4 => by simp (disch := omega) only [bd_some, lm_e, if_pos, if_neg, up_ne, up_at, upf_same, upf_ne, reduceIte, or_true, true_or, Int.reduceToNat, Int.toNat_natCast, tn100, tn200]; exact k4.1 a a1 a3 a4) (fun j j1 j2 j3 j4 => by simp (disch := omega) only [bd_some, lm_e, if_pos, if_neg, up_ne, up_at, upf_same, upf_ne, reduceIte, or_true, true_or, Int.reduceToNat, Int.toNat_natCast, tn100, tn200]; exact k4.2 j j2 j3 j4) (hIt _ _ (by simp (disch := omega) only [bd_some, lm_e, if_pos, if_neg, up_ne, up_at, upf_same, upf_ne, reduceIte, or_true, true_or, Int.reduceToNat, Int.toNat_natCast, tn100, tn200]) (by simp (disch := omega) only [bd_some, lm_e, if_pos, if_neg, up_ne, up_at, upf_same, upf_ne, reduceIte, or_true, true_or, Int.reduceToNat, Int.toNat_natCast, tn100, tn200])) ?_
      simp (disch := omega) only [bd_some, lm_e, if_pos, if_neg, up_ne, up_at, upf_same, upf_ne, reduceIte, or_true, true_or, Int.reduceToNat, Int.toNat_natCast, tn100, tn200]
      rw [k3 17 (by decide) (by decide), k4.1 312 (by decide) (by decide) (by decide)]
      exact htab
  · obtain ⟨μ2, x1, x2, -, x4⟩ := c_take 9 64 0 (up μ' 3 1 0) rfl (by decide)
    rw [show ((0 : Nat) : Int) = 0 from rfl] at x1
    obtain ⟨ν2, y1, y2, -, y4⟩ := r_take (j := j) 9 64 0 (up ν' 300 19 0) rfl (by decide)
    rw [show ((0 : Nat) : Int) = 0 from rfl] at y1
    have e52 : μ2 5 2 = j := by
      rw [x2 5 (by decide)]
      simp (disch := omega) only [bd_some, lm_e, if_pos, if_neg, up_ne, up_at, upf_same, upf_ne, reduceIte, or_true, true_or, Int.reduceToNat, Int.toNat_natCast, tn100, tn200]
      exact q3
    refine step2_do (μ' := μ2) (ν' := ν2) j ?_ ?_ (fun a ha => ?_) ?_ (fun a ha => ?_) ?_
    · show f_X10_table μ = _
      unfold f_X10_table
      have x1' : f_X6_takeNumbers (up μ' 3 1 0) = some (0, μ2) := x1
      rw [k1, bd_some, kf, bd_some, if_pos q2, x1', bd_some, e52]
    · show f_X11_table ν = _
      rw [k2]
      unfold f_X11_table_134
      rw [lm_e, show up ν' 300 19 0 300 22 = ν' 300 22 by simp (disch := omega) only [bd_some, lm_e, if_pos, if_neg, up_ne, up_at, upf_same, upf_ne, reduceIte, or_true, true_or, Int.reduceToNat, Int.toNat_natCast, tn100, tn200], if_pos (by omega)]
      exact y1
    · rw [x2 a (by omega)]
      simp (disch := omega) only [bd_some, lm_e, if_pos, if_neg, up_ne, up_at, upf_same, upf_ne, reduceIte, or_true, true_or, Int.reduceToNat, Int.toNat_natCast, tn100, tn200]
      exact k3 a (by omega) (by omega)
    · rw [x2 90 (by omega)]
      simp (disch := omega) only [bd_some, lm_e, if_pos, if_neg, up_ne, up_at, upf_same, upf_ne, reduceIte, or_true, true_or, Int.reduceToNat, Int.toNat_natCast, tn100, tn200]
      exact k3 90 (by omega) (by omega)
    · rw [y2 a (by omega)]
      simp (disch := omega) only [bd_some, lm_e, if_pos, if_neg, up_ne, up_at, upf_same, upf_ne, reduceIte, or_true, true_or, Int.reduceToNat, Int.toNat_natCast, tn100, tn200]
      exact k4.1 a (by omega) (by omega) (by omega)
    · refine Inv2_tab hI (fun a a1 a2 a3 a4 => by rw [x2 a a3]; simp (disch := omega) only [bd_some, lm_e, if_pos, if_neg, up_ne, up_at, upf_same, upf_ne, reduceIte, or_true, true_or, Int.reduceToNat, Int.toNat_natCast, tn100, tn200]; exact k3 a a2 a4) (fun a a1 a2 a3 a4 => by rw [y2 a a2]; simp (disch := omega) only [bd_some, lm_e, if_pos, if_neg, up_ne, up_at, upf_same, upf_ne, reduceIte, or_true, true_or, Int.reduceToNat, Int.toNat_natCast, tn100, tn200]; exact k4.1 a a1 a3 a4) (fun j j1 j2 j3 j4 => by rw [y2 300 (by decide)]; simp (disch := omega) only [bd_some, lm_e, if_pos, if_neg, up_ne, up_at, upf_same, upf_ne, reduceIte, or_true, true_or, Int.reduceToNat, Int.toNat_natCast, tn100, tn200]; exact k4.2 j j2 j3 j4) (hIt _ _ (by rw [x2 3 (by decide)]; simp (disch := omega) only [bd_some, lm_e, if_pos, if_neg, up_ne, up_at, upf_same, upf_ne, reduceIte, or_true, true_or, Int.reduceToNat, Int.toNat_natCast, tn100, tn200]) (by rw [y2 300 (by decide)]; simp (disch := omega) only [bd_some, lm_e, if_pos, if_neg, up_ne, up_at, upf_same, upf_ne, reduceIte, or_true, true_or, Int.reduceToNat, Int.toNat_natCast, tn100, tn200])) ?_
      intro i hi
      rw [x4 i (by omega) hi, y4 i (by omega) hi]
      simp (disch := omega) only [bd_some, lm_e, if_pos, if_neg, up_ne, up_at, upf_same, upf_ne, reduceIte, or_true, true_or, Int.reduceToNat, Int.toNat_natCast, tn100, tn200]
      have := q4 i hi
      rw [this.1]
      exact ⟨rfl, this.2⟩
