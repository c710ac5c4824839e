/-! PASS -/
theorem e_allMen {ν : Mem} (h0 : 0 ≤ ν 300 2) (hG : ν 300 2 ≤ 6) (hm : ∀ g : Nat, (g : Int) < ν 300 2 → 1 ≤ ν 301 g ∧ ν 301 g ≤ 200) : f_X11_allMen ν = some (sumTo (ν 301) (ν 300 2).toNat, ν) := by
  have h := e_allMen_4 hG hm (ν 300 2).toNat 64 0 0 (by omega) (by omega) (by omega) (by omega) rfl
  rw [Nat.zero_add] at h
  exact h
theorem sumTo_200 {f : Nat → Int} : ∀ n : Nat, (∀ k, k < n → 0 ≤ f k ∧ f k ≤ 200) → 0 ≤ sumTo f n ∧ sumTo f n ≤ 200 * (n : Int)
  | 0, _ => ⟨Int.le_refl 0, by show (0 : Int) ≤ 200 * ((0 : Nat) : Int); omega⟩
  | n + 1, h => by
    have ih := sumTo_200 n (fun k hk => h k (by omega))
    have := h n (by omega)
    show 0 ≤ sumTo f n + f n ∧ sumTo f n + f n ≤ 200 * ((n + 1 : Nat) : Int)
    omega
theorem Iboat_food {b b' f f' : Int} {d l d' l' : Nat → Int} (h : Iboat b b' f f' d l d' l') {x : Int} (h0 : 0 ≤ x) (h1 : x ≤ 10000000) : Iboat b b' x x d l d' l' := ⟨h.1, h.2.1, h.2.2.1, rfl, h0, h1, h.2.2.2.2.2.2⟩
/-- the site, with one more day of hunger or none, while the day's number may be one more -/
theorem sN_hunger {now x : Int} {μ ν : Mem} (h : Isite2 μ ν) (hn : μ 6 9 = now) (hn2 : now ≤ 3000) (hx : x = μ 6 10 ∨ x = μ 6 10 + 1) : sN (now + 1) (up μ 6 10 x) (up ν 300 16 x) := by
  obtain ⟨n0, hm, ⟨g1, g2⟩, ⟨t1, t2⟩, w1, w2, w3, w4⟩ := h
  unfold Inum2 at n0
  unfold sN Isite2 Inum2 Igang2 Istone2 Iwork2
  simp (disch := omega) only [bd_some, lm_e, if_pos, if_neg, up_ne, up_at, upf_same, upf_ne, reduceIte, or_true, true_or, Int.reduceToNat, Int.toNat_natCast, tn100, tn200]
  refine ⟨by and_intros <;> first | trivial | omega, hm, ⟨fun g hg => ?_, g2⟩, ⟨t1, t2⟩, w1, w2, w3, w4⟩
  obtain ⟨z0, z1, z2, z3, z4, z5, z6, z7, z8, z9, z10, z11, z12, z13, z14, z15⟩ := g1 g hg
  exact ⟨z0, z1, z2, z3, z4, z5, z6, z7, z8, z9, z10, z11, z12, by omega, z14, by omega⟩
set_option maxHeartbeats 8000000 in
theorem day_all {now : Int} {μ ν : Mem} (h : Inv2 μ ν) (hn : μ 6 9 = now) (hn2 : now ≤ 3000) : ∃ μ' ν', f_X3_liveDay μ = some (0, μ') ∧ f_X11_day ν = some (0, ν') ∧ (∀ a, 300 ≤ a → μ' a = μ a) ∧ μ' 90 = μ 90 ∧ (∀ a, a < 300 → ν' a = ν a) ∧ μ' 6 9 = now + 1 ∧ ν' 300 1 = now ∧ Inv2 μ' (up ν' 300 1 (now + 1)) := by
  have hI := h
  obtain ⟨hb, hsp, hru, htp, htab, hs, hrf, hpl, htl, hq⟩ := h
  have hs0 := hs.1
  unfold Inum2 at hs0
  have hgang := hs.2.2.1.1
  have hm := hs.2.1
  have hb0 := hb
  obtain ⟨b1, b2, b3, b4, b5, b6, b7⟩ := hb0
  have hsp0 := hsp
  obtain ⟨p1, p2, p3, -⟩ := hsp0
  have hall := sumTo_200 (f := ν 301) (μ 6 5).toNat (fun k hk => by have := hgang k (by omega); omega)
  -- boats
  let fd := foodF (μ 14) (μ 15) now (μ 2 2).toNat 0 (μ 2 3)
  have hfd : foodF (μ 14) (μ 15) now (μ 2 2).toNat 0 (μ 2 3) = fd := rfl
  have fb : 0 ≤ fd ∧ fd ≤ 10000000 := foodF_b _ _ _ b5 b6 (fun i hi => (b7 i (by omega)).2.2.1)
  have c1 : f_X5_landBoats μ now = some (0, up μ 2 3 fd) := by
    unfold f_X5_landBoats
    have := e_landBoats_2 (now := now) (μ 2 2).toNat 64 0 μ (by omega) (by omega) b3 b5 b6 (fun i hi => (b7 i hi).2.2)
    exact this
  have r1 : f_X11_day ν = dayRest (up ν 300 15 fd) := by
    unfold f_X11_day
    have := e_day_2 (now := now) (μ 2 2).toNat 64 0 ν (by omega) (by omega) (by omega) (by omega) (by omega) (by omega) (fun i hi => by have := b7 i (by omega); omega)
    rw [b4, foodF_cong _ _ _ (fun i hi => ⟨(b7 i (by omega)).1, (b7 i (by omega)).2.1⟩)] at this
    exact this
  clear_value fd
  let H := isOnP (μ 1 3) (μ 9) (μ 10) (μ 11) 0 now
  let W := isOnP (μ 1 3) (μ 9) (μ 10) (μ 11) 1 now
  let E := isOnP (μ 1 3) (μ 9) (μ 10) (μ 11) 2 now
  have cis : ∀ (kind : Int) (κ : Mem), κ 1 = μ 1 → κ 9 = μ 9 → κ 10 = μ 10 → κ 11 = μ 11 → f_X2_isOn κ kind now = some (b2i (isOnP (μ 1 3) (μ 9) (μ 10) (μ 11) kind now), κ) := by
    intro kind κ e1 e2 e3 e4
    rw [e_isOn (by rw [e1]; exact p2) (by rw [e1]; exact p3), e1, e2, e3, e4]
  have cisf : ∀ (f kind : Int), f_X2_isOn (up μ 2 3 f) kind now = some (b2i (isOnP (μ 1 3) (μ 9) (μ 10) (μ 11) kind now), up μ 2 3 f) := fun f kind => cis kind _ (up_ne (by decide)) (up_ne (by decide)) (up_ne (by decide)) (up_ne (by decide))
  have ris : f_X11_is (up ν 300 15 fd) 2 now = some (b2i E, up ν 300 15 fd) := by
    rw [e_is (by simp (disch := omega) only [bd_some, lm_e, if_pos, if_neg, up_ne, up_at, upf_same, upf_ne, reduceIte, or_true, true_or, Int.reduceToNat, Int.toNat_natCast, tn100, tn200]; omega) (by simp (disch := omega) only [bd_some, lm_e, if_pos, if_neg, up_ne, up_at, upf_same, upf_ne, reduceIte, or_true, true_or, Int.reduceToNat, Int.toNat_natCast, tn100, tn200]; omega)]
    simp (disch := omega) only [bd_some, lm_e, if_pos, if_neg, up_ne, up_at, upf_same, upf_ne, reduceIte, or_true, true_or, Int.reduceToNat, Int.toNat_natCast, tn100, tn200]
    rw [b2i_cong (isOn_same hsp 2 now)]
  have ram : f_X11_allMen (up ν 300 15 fd) = some (μ 6 7, up ν 300 15 fd) := by
    rw [e_allMen (by simp (disch := omega) only [bd_some, lm_e, if_pos, if_neg, up_ne, up_at, upf_same, upf_ne, reduceIte, or_true, true_or, Int.reduceToNat, Int.toNat_natCast, tn100, tn200]; omega) (by simp (disch := omega) only [bd_some, lm_e, if_pos, if_neg, up_ne, up_at, upf_same, upf_ne, reduceIte, or_true, true_or, Int.reduceToNat, Int.toNat_natCast, tn100, tn200]; omega) (by simp (disch := omega) only [bd_some, lm_e, if_pos, if_neg, up_ne, up_at, upf_same, upf_ne, reduceIte, or_true, true_or, Int.reduceToNat, Int.toNat_natCast, tn100, tn200]; intro g hg; have := hgang g (by omega); omega)]
    simp (disch := omega) only [bd_some, lm_e, if_pos, if_neg, up_ne, up_at, upf_same, upf_ne, reduceIte, or_true, true_or, Int.reduceToNat, Int.toNat_natCast, tn100, tn200]
    rw [hm, hs0.2.2.2.1]
  -- the end of the proof, from the loop
  have fin : ∀ (x f' : Int) (idle high wet fe la : Int), (x = μ 6 10 ∨ x = μ 6 10 + 1) → 0 ≤ f' → f' ≤ 10000000 → ((idle = 0 ∧ fe = 0 ∧ la = 0 ∧ high = b2i H ∧ wet = b2i W) ∨ (idle = 1 ∧ (fe ≠ 0 ∨ la ≠ 0) ∧ high = 0)) → f_X3_liveDay μ = f_X3_liveDay_122 64 idle high wet 0 (up (up μ 6 10 x) 2 3 f') → f_X11_day ν = f_X11_day_133 64 fe la 0 (up (up ν 300 16 x) 300 15 f') → ∃ μ' ν', f_X3_liveDay μ = some (0, μ') ∧ f_X11_day ν = some (0, ν') ∧ (∀ a, 300 ≤ a → μ' a = μ a) ∧ μ' 90 = μ 90 ∧ (∀ a, a < 300 → ν' a = ν a) ∧ μ' 6 9 = now + 1 ∧ ν' 300 1 = now ∧ Inv2 μ' (up ν' 300 1 (now + 1)) := by
    intro x f' idle high wet fe la hx f1 f2 hi ec er
    have hN : sN (now + 1) (up (up μ 6 10 x) 2 3 f') (up (up ν 300 16 x) 300 15 f') := by
      have q := sN_hunger hs hn hn2 hx
      unfold sN at q ⊢
      refine Isite2_fr q (fun a ha => ?_) (fun a ha => ?_) ?_ ?_ ?_ ?_ ?_
      · unfold sC at ha
        by_cases e6 : a = 6
        · subst e6; simp (disch := omega) only [bd_some, lm_e, if_pos, if_neg, up_ne, up_at, upf_same, upf_ne, reduceIte, or_true, true_or, Int.reduceToNat, Int.toNat_natCast, tn100, tn200]
        · simp (disch := omega) only [bd_some, lm_e, if_pos, if_neg, up_ne, up_at, upf_same, upf_ne, reduceIte, or_true, true_or, Int.reduceToNat, Int.toNat_natCast, tn100, tn200]
      · unfold sR at ha
        simp (disch := omega) only [bd_some, lm_e, if_pos, if_neg, up_ne, up_at, upf_same, upf_ne, reduceIte, or_true, true_or, Int.reduceToNat, Int.toNat_natCast, tn100, tn200]
      · simp (disch := omega) only [bd_some, lm_e, if_pos, if_neg, up_ne, up_at, upf_same, upf_ne, reduceIte, or_true, true_or, Int.reduceToNat, Int.toNat_natCast, tn100, tn200]
      · simp (disch := omega) only [bd_some, lm_e, if_pos, if_neg, up_ne, up_at, upf_same, upf_ne, reduceIte, or_true, true_or, Int.reduceToNat, Int.toNat_natCast, tn100, tn200]
      · simp (disch := omega) only [bd_some, lm_e, if_pos, if_neg, up_ne, up_at, upf_same, upf_ne, reduceIte, or_true, true_or, Int.reduceToNat, Int.toNat_natCast, tn100, tn200]
      · simp (disch := omega) only [bd_some, lm_e, if_pos, if_neg, up_ne, up_at, upf_same, upf_ne, reduceIte, or_true, true_or, Int.reduceToNat, Int.toNat_natCast, tn100, tn200]
      · simp (disch := omega) only [bd_some, lm_e, if_pos, if_neg, up_ne, up_at, upf_same, upf_ne, reduceIte, or_true, true_or, Int.reduceToNat, Int.toNat_natCast, tn100, tn200]
    obtain ⟨μ1, ν1, k1, k2, k3, k4⟩ := day_loop (now := now) (H := H) (W := W) hi (μ 6 5).toNat 64 64 0 (up (up μ 6 10 x) 2 3 f') (up (up ν 300 16 x) 300 15 f') ⟨hN, by simp (disch := omega) only [bd_some, lm_e, if_pos, if_neg, up_ne, up_at, upf_same, upf_ne, reduceIte, or_true, true_or, Int.reduceToNat, Int.toNat_natCast, tn100, tn200]; exact hn, by simp (disch := omega) only [bd_some, lm_e, if_pos, if_neg, up_ne, up_at, upf_same, upf_ne, reduceIte, or_true, true_or, Int.reduceToNat, Int.toNat_natCast, tn100, tn200]; omega, by
        simp (disch := omega) only [bd_some, lm_e, if_pos, if_neg, up_ne, up_at, upf_same, upf_ne, reduceIte, or_true, true_or, Int.reduceToNat, Int.toNat_natCast, tn100, tn200]
        intro g _ hg
        have := hgang g hg
        omega⟩ (by
        unfold dayS
        simp (disch := omega) only [bd_some, lm_e, if_pos, if_neg, up_ne, up_at, upf_same, upf_ne, reduceIte, or_true, true_or, Int.reduceToNat, Int.toNat_natCast, tn100, tn200]
        exact ⟨htab, hsp, Iff.rfl, Iff.rfl⟩) (by omega) (by simp (disch := omega) only [bd_some, lm_e, if_pos, if_neg, up_ne, up_at, upf_same, upf_ne, reduceIte, or_true, true_or, Int.reduceToNat, Int.toNat_natCast, tn100, tn200]; omega) (by omega) (by omega)
    obtain ⟨d1, d2, d3, d4⟩ := k3
    unfold sR at d3
    have g1 : ∀ a, ¬ (a = 6 ∨ (100 ≤ a ∧ a < 300)) → a ≠ 2 → μ1 a = μ a := fun a h1 h2 => by
      rw [d1 a h1]; simp (disch := omega) only [bd_some, lm_e, if_pos, if_neg, up_ne, up_at, upf_same, upf_ne, reduceIte, or_true, true_or, Int.reduceToNat, Int.toNat_natCast, tn100, tn200]
    have g3 : ∀ a, ¬ ((301 ≤ a ∧ a ≤ 305) ∨ (315 ≤ a ∧ a ≤ 319)) → a ≠ 300 → ν1 a = ν a := fun a h1 h2 => by
      rw [d3 a h1 h2]; simp (disch := omega) only [bd_some, lm_e, if_pos, if_neg, up_ne, up_at, upf_same, upf_ne, reduceIte, or_true, true_or, Int.reduceToNat, Int.toNat_natCast, tn100, tn200]
    have g2 : ∀ j, j ≠ 3 → μ1 2 j = μ 2 j := fun j hj => by rw [d1 2 (by omega)]; simp (disch := omega) only [bd_some, lm_e, if_pos, if_neg, up_ne, up_at, upf_same, upf_ne, reduceIte, or_true, true_or, Int.reduceToNat, Int.toNat_natCast, tn100, tn200]
    have g23 : μ1 2 3 = f' := by rw [d1 2 (by omega)]; simp (disch := omega) only [bd_some, lm_e, if_pos, if_neg, up_ne, up_at, upf_same, upf_ne, reduceIte, or_true, true_or, Int.reduceToNat, Int.toNat_natCast, tn100, tn200]
    have g4 : ∀ j, j ≠ 17 → j ≠ 16 → j ≠ 15 → ν1 300 j = ν 300 j := fun j h1 h2 h3 => by rw [d4 j h1]; simp (disch := omega) only [bd_some, lm_e, if_pos, if_neg, up_ne, up_at, upf_same, upf_ne, reduceIte, or_true, true_or, Int.reduceToNat, Int.toNat_natCast, tn100, tn200]
    have g415 : ν1 300 15 = f' := by rw [d4 15 (by omega)]; simp (disch := omega) only [bd_some, lm_e, if_pos, if_neg, up_ne, up_at, upf_same, upf_ne, reduceIte, or_true, true_or, Int.reduceToNat, Int.toNat_natCast, tn100, tn200]
    refine ⟨up μ1 6 9 (now + 1), ν1, by rw [ec, k1], by rw [er, k2], fun a ha => ?_, ?_, fun a ha => ?_, by simp (disch := omega) only [bd_some, lm_e, if_pos, if_neg, up_ne, up_at, upf_same, upf_ne, reduceIte, or_true, true_or, Int.reduceToNat, Int.toNat_natCast, tn100, tn200], ?_, ?_⟩
    · rw [up_ne (by omega)]; exact g1 a (by omega) (by omega)
    · rw [up_ne (by omega)]; exact g1 90 (by omega) (by omega)
    · exact g3 a (by omega) (by omega)
    · rw [g4 1 (by omega) (by omega) (by omega)]; omega
    · have hS : Isite2 (up μ1 6 9 (now + 1)) (up ν1 300 1 (now + 1)) := k4.1
      unfold Inv2
      have b7 : Irefs (up μ1 6 9 (now + 1)) := Irefs_fr hrf (by rw [up_ne (by omega)]; exact g1 _ (by omega) (by omega)) (by rw [up_ne (by omega)]; exact g1 _ (by omega) (by omega)) (by rw [up_ne (by omega)]; exact g1 _ (by omega) (by omega)) (by rw [up_ne (by omega)]; exact g1 _ (by omega) (by omega))
      have b8 : Iplan2 (μ 7 17) (ν 300 33) (up μ1 6 9 (now + 1)) (up ν1 300 1 (now + 1)) := Iplan2_fr hpl (fun a q1 q2 => by rw [up_ne (by omega)]; exact g1 a (by omega) (by omega)) (fun a q1 q2 => by rw [up_ne (by omega)]; exact g3 a (by omega) (by omega))
      simp (disch := omega) only [bd_some, lm_e, if_pos, if_neg, up_ne, up_at, upf_same, upf_ne, reduceIte, or_true, true_or, Int.reduceToNat, Int.toNat_natCast, tn100, tn200]
      rw [g2 2 (by omega), g23, g415, g4 3 (by omega) (by omega) (by omega), g4 4 (by omega) (by omega) (by omega), g4 19 (by omega) (by omega) (by omega), g4 33 (by omega) (by omega) (by omega), g4 45 (by omega) (by omega) (by omega), g1 14 (by omega) (by omega), g1 15 (by omega) (by omega), g3 306 (by omega) (by omega), g3 307 (by omega) (by omega), g1 1 (by omega) (by omega), g1 9 (by omega) (by omega), g1 10 (by omega) (by omega), g1 11 (by omega) (by omega), g3 308 (by omega) (by omega), g3 309 (by omega) (by omega), g3 310 (by omega) (by omega), g1 12 (by omega) (by omega), g1 13 (by omega) (by omega), g1 3 (by omega) (by omega), g1 16 (by omega) (by omega), g3 311 (by omega) (by omega), g1 17 (by omega) (by omega), g3 312 (by omega) (by omega), g1 7 (by omega) (by omega), g1 8 (by omega) (by omega), g1 32 (by omega) (by omega), g1 33 (by omega) (by omega), g1 34 (by omega) (by omega), g1 35 (by omega) (by omega), g3 331 (by omega) (by omega), g3 332 (by omega) (by omega), g3 333 (by omega) (by omega), g3 334 (by omega) (by omega)]
      exact ⟨Iboat_food hb f1 f2, hsp, hru, htp, htab, hS, b7, b8, htl, hq⟩
  have nn : ν 300 1 = now := by omega
  have n16 : ν 300 16 = μ 6 10 := by omega
  have hE := b2i_01 E
  by_cases hf : μ 6 7 ≤ fd
  · -- enough to eat
    have x16 : up ν 300 16 (μ 6 10) = ν := by rw [← n16]; exact up_id
    by_cases he : b2i E = 0
    · refine fin (μ 6 10) (fd - μ 6 7) 0 (b2i H) (b2i W) 0 0 (Or.inl rfl) (by omega) (by omega) (Or.inl ⟨rfl, rfl, rfl, rfl, rfl⟩) ?_ ?_
      · rw [up_id]
        unfold f_X3_liveDay f_X3_liveDay_69 f_X3_liveDay_92 f_X3_liveDay_93
        have hH := b2i_01 H
        have hW := b2i_01 W
        rw [hn, c1, bd_some]
        rcases hH with hH | hH <;> rcases hW with hW | hW <;> simp (disch := omega) only [hn, cisf, up_up, he, hH, hW, show b2i (isOnP (μ 1 3) (μ 9) (μ 10) (μ 11) 2 now) = b2i E from rfl, show b2i (isOnP (μ 1 3) (μ 9) (μ 10) (μ 11) 0 now) = b2i H from rfl, show b2i (isOnP (μ 1 3) (μ 9) (μ 10) (μ 11) 1 now) = b2i W from rfl, bd_some, lm_e, if_pos, if_neg, up_ne, up_at, upf_same, upf_ne, reduceIte, or_true, true_or, Int.reduceToNat, Int.toNat_natCast, tn100, tn200]
      · rw [x16, r1]
        unfold dayRest f_X11_day_93 f_X11_day_108
        simp (disch := omega) only [nn, ris, ram, he, up_up, bd_some, lm_e, if_pos, if_neg, up_ne, up_at, upf_same, upf_ne, reduceIte, or_true, true_or, Int.reduceToNat, Int.toNat_natCast, tn100, tn200]
        rw [Int.add_zero, show ν 300 16 = up ν 300 15 (fd - μ 6 7) 300 16 by simp (disch := omega) only [bd_some, lm_e, if_pos, if_neg, up_ne, up_at, upf_same, upf_ne, reduceIte, or_true, true_or, Int.reduceToNat, Int.toNat_natCast, tn100, tn200], up_id]
    · have he1 : b2i E = 1 := by omega
      refine fin (μ 6 10) (fd - μ 6 7) 1 0 0 1 0 (Or.inl rfl) (by omega) (by omega) (Or.inr ⟨rfl, Or.inl (by omega), rfl⟩) ?_ ?_
      · rw [up_id]
        unfold f_X3_liveDay f_X3_liveDay_69 f_X3_liveDay_92 f_X3_liveDay_93
        rw [hn, c1, bd_some]
        simp (disch := omega) only [hn, cisf, up_up, he1, show b2i (isOnP (μ 1 3) (μ 9) (μ 10) (μ 11) 2 now) = b2i E from rfl, bd_some, lm_e, if_pos, if_neg, up_ne, up_at, upf_same, upf_ne, reduceIte, or_true, true_or, Int.reduceToNat, Int.toNat_natCast, tn100, tn200]
      · rw [x16, r1]
        unfold dayRest f_X11_day_93 f_X11_day_108
        simp (disch := omega) only [nn, ris, ram, he1, up_up, bd_some, lm_e, if_pos, if_neg, up_ne, up_at, upf_same, upf_ne, reduceIte, or_true, true_or, Int.reduceToNat, Int.toNat_natCast, tn100, tn200]
        rw [Int.add_zero, show ν 300 16 = up ν 300 15 (fd - μ 6 7) 300 16 by simp (disch := omega) only [bd_some, lm_e, if_pos, if_neg, up_ne, up_at, upf_same, upf_ne, reduceIte, or_true, true_or, Int.reduceToNat, Int.toNat_natCast, tn100, tn200], up_id]
  · -- hunger
    have sw : ∀ (κ : Mem) (a b : Int), up (up κ 2 3 a) 6 10 b = up (up κ 6 10 b) 2 3 a := by
      intro κ a b
      funext x j
      by_cases e1 : x = 2
      · subst e1; simp (disch := omega) only [bd_some, lm_e, if_pos, if_neg, up_ne, up_at, upf_same, upf_ne, reduceIte, or_true, true_or, Int.reduceToNat, Int.toNat_natCast, tn100, tn200]
      · by_cases e2 : x = 6
        · subst e2; simp (disch := omega) only [bd_some, lm_e, if_pos, if_neg, up_ne, up_at, upf_same, upf_ne, reduceIte, or_true, true_or, Int.reduceToNat, Int.toNat_natCast, tn100, tn200]
        · simp (disch := omega) only [bd_some, lm_e, if_pos, if_neg, up_ne, up_at, upf_same, upf_ne, reduceIte, or_true, true_or, Int.reduceToNat, Int.toNat_natCast, tn100, tn200]
    have sw2 : ∀ (κ : Mem) (a b : Int), up (up κ 300 15 a) 300 16 b = up (up κ 300 16 b) 300 15 a := by
      intro κ a b
      funext x j
      by_cases e1 : x = 300
      · subst e1
        by_cases e2 : j = 15
        · subst e2; simp (disch := omega) only [bd_some, lm_e, if_pos, if_neg, up_ne, up_at, upf_same, upf_ne, reduceIte, or_true, true_or, Int.reduceToNat, Int.toNat_natCast, tn100, tn200]
        · by_cases e3 : j = 16
          · subst e3; simp (disch := omega) only [bd_some, lm_e, if_pos, if_neg, up_ne, up_at, upf_same, upf_ne, reduceIte, or_true, true_or, Int.reduceToNat, Int.toNat_natCast, tn100, tn200]
          · simp (disch := omega) only [bd_some, lm_e, if_pos, if_neg, up_ne, up_at, upf_same, upf_ne, reduceIte, or_true, true_or, Int.reduceToNat, Int.toNat_natCast, tn100, tn200]
      · simp (disch := omega) only [bd_some, lm_e, if_pos, if_neg, up_ne, up_at, upf_same, upf_ne, reduceIte, or_true, true_or, Int.reduceToNat, Int.toNat_natCast, tn100, tn200]
    refine fin (μ 6 10 + 1) fd 1 0 0 (b2i E) 1 (Or.inr rfl) fb.1 fb.2 (Or.inr ⟨rfl, Or.inr (by omega), rfl⟩) ?_ ?_
    · unfold f_X3_liveDay f_X3_liveDay_69 f_X3_liveDay_92 f_X3_liveDay_93
      rw [hn, c1, bd_some]
      simp (disch := omega) only [hn, cisf, up_up, bd_some, lm_e, if_pos, if_neg, up_ne, up_at, upf_same, upf_ne, reduceIte, or_true, true_or, Int.reduceToNat, Int.toNat_natCast, tn100, tn200]
      rw [sw]
    · rw [r1]
      unfold dayRest f_X11_day_93 f_X11_day_108
      simp (disch := omega) only [nn, ris, ram, up_up, bd_some, lm_e, if_pos, if_neg, up_ne, up_at, upf_same, upf_ne, reduceIte, or_true, true_or, Int.reduceToNat, Int.toNat_natCast, tn100, tn200]
      rw [Int.sub_zero, n16, sw2]
theorem pass_loop {a : Int} (d : Nat) : ∀ (n m : Nat) (v : Int) (μ ν : Mem), Inv2 μ ν → 0 ≤ v → v + (d : Int) = a → a ≤ 400 → μ 6 9 + (d : Int) ≤ 3001 → d < n → d < m → ∃ r μ' ν', f_X10_pass_31 n a v μ = some (r, μ') ∧ f_X11_pass_27 m a v ν = some (r, ν') ∧ (∀ b, 300 ≤ b → μ' b = μ b) ∧ μ' 90 = μ 90 ∧ (∀ b, b < 300 → ν' b = ν b) ∧ Inv2 μ' ν' := by
  induction d with
  | zero =>
    intro n m v μ ν h h0 h1 h2 h3 hn hm
    obtain ⟨n, rfl⟩ : ∃ k, n = k + 1 := ⟨n - 1, by omega⟩
    obtain ⟨m, rfl⟩ : ∃ k, m = k + 1 := ⟨m - 1, by omega⟩
    have n0 := h.2.2.2.2.2.1.1
    unfold Inum2 at n0
    refine ⟨μ 6 9, μ, ν, ?_, ?_, fun _ _ => rfl, rfl, fun _ _ => rfl, h⟩
    · rw [f_X10_pass_31_e]
      simp (disch := omega) only [bd_some, lm_e, if_pos, if_neg, up_ne, up_at, upf_same, upf_ne, reduceIte, or_true, true_or, Int.reduceToNat, Int.toNat_natCast, tn100, tn200]
    · rw [f_X11_pass_27_e, n0.1]
      simp (disch := omega) only [bd_some, lm_e, if_pos, if_neg, up_ne, up_at, upf_same, upf_ne, reduceIte, or_true, true_or, Int.reduceToNat, Int.toNat_natCast, tn100, tn200]
  | succ d ih =>
    intro n m v μ ν h h0 h1 h2 h3 hn hm
    obtain ⟨n, rfl⟩ : ∃ k, n = k + 1 := ⟨n - 1, by omega⟩
    obtain ⟨m, rfl⟩ : ∃ k, m = k + 1 := ⟨m - 1, by omega⟩
    obtain ⟨μ1, ν1, k1, k2, k3, k4, k5, k6, k7, k8⟩ := day_all h rfl (by omega)
    obtain ⟨r, μ', ν', q1, q2, q3, q4, q5, q6⟩ := ih n m (v + 1) μ1 (up ν1 300 1 (μ 6 9 + 1)) k8 (by omega) (by omega) h2 (by rw [k6]; omega) (by omega) (by omega)
    have n0 := h.2.2.2.2.2.1.1
    unfold Inum2 at n0
    refine ⟨r, μ', ν', ?_, ?_, fun b hb => (q3 b hb).trans (k3 b hb), q4.trans k4, fun b hb => ?_, q6⟩
    · rw [f_X10_pass_31_e]
      simp (disch := omega) only [k1, q1, bd_some, lm_e, if_pos, if_neg, up_ne, up_at, upf_same, upf_ne, reduceIte, or_true, true_or, Int.reduceToNat, Int.toNat_natCast, tn100, tn200]
    · rw [f_X11_pass_27_e]
      simp (disch := omega) only [k2, k7, q2, bd_some, lm_e, if_pos, if_neg, up_ne, up_at, upf_same, upf_ne, reduceIte, or_true, true_or, Int.reduceToNat, Int.toNat_natCast, tn100, tn200]
    · rw [q5 b hb, up_ne (by omega)]; exact k5 b hb
theorem s_pass {μ ν : Mem} (h : Inv2 μ ν) (a : Int) (ha : inR a) : Step2 (fun μ => f_X10_pass μ a) (fun ν => f_X11_pass ν a) μ ν := by
  have n0 := h.2.2.2.2.2.1.1
  unfold Inum2 at n0
  by_cases hc : 1 ≤ a ∧ a ≤ 400
  · by_cases hc2 : μ 6 9 + a ≤ 3001
    · obtain ⟨r, μ', ν', q1, q2, q3, q4, q5, q6⟩ := pass_loop (a := a) a.toNat 512 512 0 μ ν h (by omega) (by omega) (by omega) (by omega) (by omega) (by omega)
      refine step2_do r (μ' := μ') (ν' := ν') ?_ ?_ q3 q4 q5 q6
      · unfold f_X10_pass
        simp (disch := omega) only [q1, bd_some, lm_e, if_pos, if_neg, up_ne, up_at, upf_same, upf_ne, reduceIte, or_true, true_or, Int.reduceToNat, Int.toNat_natCast, tn100, tn200]
      · unfold f_X11_pass
        simp (disch := omega) only [f_in_e, b2i_0, q2, bd_some, lm_e, if_pos, if_neg, up_ne, up_at, upf_same, upf_ne, reduceIte, or_true, true_or, Int.reduceToNat, Int.toNat_natCast, tn100, tn200]
    · refine step2_ro h (-1) ?_ ?_
      · unfold f_X10_pass
        simp (disch := omega) only [bd_some, lm_e, if_pos, if_neg, up_ne, up_at, upf_same, upf_ne, reduceIte, or_true, true_or, Int.reduceToNat, Int.toNat_natCast, tn100, tn200]
      · unfold f_X11_pass
        simp (disch := omega) only [f_in_e, b2i_0, bd_some, lm_e, if_pos, if_neg, up_ne, up_at, upf_same, upf_ne, reduceIte, or_true, true_or, Int.reduceToNat, Int.toNat_natCast, tn100, tn200]
  · refine step2_ro h (-1) ?_ ?_
    · unfold f_X10_pass
      by_cases c1 : a < 1
      · simp (disch := omega) only [bd_some, lm_e, if_pos, if_neg, up_ne, up_at, upf_same, upf_ne, reduceIte, or_true, true_or, Int.reduceToNat, Int.toNat_natCast, tn100, tn200]
      · simp (disch := omega) only [bd_some, lm_e, if_pos, if_neg, up_ne, up_at, upf_same, upf_ne, reduceIte, or_true, true_or, Int.reduceToNat, Int.toNat_natCast, tn100, tn200]
    · unfold f_X11_pass
      simp (disch := omega) only [f_in_e, b2i_0, bd_some, lm_e, if_pos, if_neg, up_ne, up_at, upf_same, upf_ne, reduceIte, or_true, true_or, Int.reduceToNat, Int.toNat_natCast, tn100, tn200]
