/-! THE PLAN: both -/
theorem s_plan {μ ν : Mem} (h : Inv2 μ ν) (hnr : ∀ j, ν 19 j < 300 ∧ ν 20 j < 300 ∧ ν 21 j < 300) : Step2 (fun μ => f_X10_plan μ) (fun ν => f_X11_plan ν) μ ν := by
  obtain ⟨a1, a2, a3, a4, a5, a6, a7, a8, a9, a10⟩ := id h
  have n0 := sN_n (sN_of a6)
  have i1 := a6.1.1
  have i2 := a6.1.2.1
  have i3 := a6.1.2.2.1
  obtain ⟨κ0, hκ0⟩ : ∃ z, z = up μ 7 5 0 := ⟨_, rfl⟩
  obtain ⟨η0, hη0⟩ : ∃ z, z = up ν 300 32 0 := ⟨_, rfl⟩
  obtain ⟨r, n, w, κ1, η1, e1, e2, e3, e4, e5⟩ := e_gather a6 (μ 6 6).toNat 64 4000 0 0 (fun _ => 0) κ0 η0 (by omega) (by omega) (by omega) ⟨fun a x1 _ _ => by rw [hκ0, up_ne x1], fun j hj => by rw [hκ0, up_at, upf_ne hj]⟩ ⟨fun a x1 _ => by rw [hη0, up_ne x1], fun j hj => by rw [hη0, up_at, upf_ne hj]⟩ ⟨by rw [hκ0, up_at, upf_same]; rfl, by rw [hη0, up_at, upf_same]; rfl, by omega, fun i hi => by omega, fun j => by
    rw [hκ0, up_ne (by omega)]
    have := a7.2.2 j
    omega⟩
  rw [show ((0 : Nat) : Int) = 0 from rfl] at e1 e5
  have g1 : f_X1_gatherStones μ = some (r, κ1) := by
    unfold f_X1_gatherStones
    rw [lm_e, ← hκ0, e1]
  have p1 : f_X11_plan ν = f_X11_plan_7 4000 0 η0 := by
    unfold f_X11_plan
    rw [lm_e, ← hη0]
  have c17 : κ1 7 17 = μ 7 17 := e2.2 17 (by decide)
  have r33 : η1 300 33 = ν 300 33 := e3.2 33 (by decide)
  -- the end of it
  have fin : ∀ (v : Int) (κ η : Mem), f_X1_makePlan μ = some (v, κ) → f_X11_plan ν = some (v, η) → (∀ a, a ≠ 7 → ¬ (21 ≤ a ∧ a ≤ 30) → ¬ (40 ≤ a ∧ a < 50) → κ a = μ a) → (∀ a, a ≠ 300 → ¬ (320 ≤ a ∧ a ≤ 330) → a ≠ 399 → η a = ν a) → (∀ j, j ≠ 32 → j ≠ 33 → η 300 j = ν 300 j) → (∀ j, κ 21 j < 100 + μ 6 6) → Iplan2 (κ 7 17) (η 300 33) κ η → Step2 (fun μ => f_X10_plan μ) (fun ν => f_X11_plan ν) μ ν := by
    intro v κ η x1 x2 x3 x4 x5 x6 x7
    have x8 : f_X10_plan μ = some (v, κ) := by
      unfold f_X10_plan
      rw [x1, bd_some]
    exact wp_of x8 ⟨fun a ha => x3 a (by omega) (by omega) (by omega), x3 90 (by omega) (by omega) (by omega), wp_of x2 ⟨rfl, fun a ha => x4 a (by omega) (by omega) (by omega), plan_inv h x3 x4 x5 x6 x7⟩⟩
  rcases e5 with ⟨r0, e5⟩ | ⟨r1, e5, m, e6⟩
  · subst r0
    refine fin (-1) κ1 η1 ?_ (by rw [p1, e5]) (fun a y1 y2 y3 => e2.1 a y1 (by omega) (by omega)) (fun a y1 y2 y3 => e3.1 a y1 (by omega)) (fun j j1 j2 => e3.2 j j1) e4 ?_
    · unfold f_X1_makePlan
      rw [g1, bd_some, if_pos rfl]
    · rw [c17, r33]
      exact Iplan2_fr a8 (fun a y1 y2 => e2.1 a (by omega) (by omega) (by omega)) (fun a y1 y2 => e3.1 a (by omega) (by omega))
  · subst r1
    obtain ⟨f1, f2, f3, f4, f5⟩ := e5
    have k69 : κ1 6 9 = μ 6 9 := by rw [e2.1 6 (by decide) (by decide) (by decide)]
    by_cases c : n = 0
    · subst c
      refine fin (μ 6 9 - 1) (up κ1 7 17 0) (up η1 300 33 0) ?_ ?_ (fun a y1 y2 y3 => by rw [up_ne y1]; exact e2.1 a y1 (by omega) (by omega)) (fun a y1 y2 y3 => by rw [up_ne y1]; exact e3.1 a y1 (by omega)) (fun j j1 j2 => by rw [up_at, upf_ne j2]; exact e3.2 j j1) (fun j => by rw [up_ne (by decide)]; exact e4 j) ?_
      · have z1 : (up κ1 7 17 0) 6 9 = μ 6 9 := by rw [up_ne (by decide)]; exact k69
        unfold f_X1_makePlan
        rw [g1, bd_some, if_neg (by decide), if_pos (by rw [f1]; rfl), lm_e, z1, if_pos (by omega)]
      · have z1 : (up η1 300 33 0) 300 1 = μ 6 9 := by rw [up_at, upf_ne (by decide), e3.2 1 (by decide)]; exact i1
        rw [p1, e6, f_X11_plan_7_e, if_pos (by rw [e3.2 26 (by decide)]; omega), if_pos (by rw [f2]; rfl), lm_e, z1, if_pos (by omega)]
      · rw [up_at, upf_same, up_at, upf_same]
        exact ⟨rfl, Int.le_refl 0, by decide, fun k hk => by omega⟩
    · have is1 : Isite2 κ1 ν := Isite2_fr a6 (fun a ha => e2.1 a (by unfold sC at ha; omega) (by unfold sC at ha; omega) (by unfold sC at ha; omega)) (fun _ _ => rfl) rfl rfl rfl rfl rfl
      have k17 : κ1 17 = μ 17 := e2.1 17 (by decide) (by decide) (by decide)
      have k6 : κ1 6 = μ 6 := e2.1 6 (by decide) (by decide) (by decide)
      obtain ⟨κ2, w1, w2, w3, w4⟩ := e_prep2 (κb := κ1) (w := w) (n := n) is1 (by rw [k17]; exact a5) f3 f1 (fun j hj => by rw [k6]; exact ⟨(f4 j hj).1, (f4 j hj).2.2.2.1⟩) 6 64 0 κ1 (by omega) (by omega) (fun _ _ _ _ _ _ => rfl) (fun g hg => by omega)
      rw [show ((0 : Nat) : Int) = 0 from rfl] at w1
      have all2 : ∀ a, a ≠ 7 → ¬ (21 ≤ a ∧ a ≤ 30) → ¬ (40 ≤ a ∧ a < 50) → κ2 a = μ a := fun a y1 y2 y3 => by
        rw [w2 a (by omega) (by omega) (by omega) (by omega) (by omega)]
        exact e2.1 a y1 (by omega) (by omega)
      have k27 : κ2 7 = κ1 7 := w2 7 (by omega) (by omega) (by omega) (by omega) (by omega)
      have k221 : κ2 21 = κ1 21 := w2 21 (by omega) (by omega) (by omega) (by omega) (by omega)
      have k222 : κ2 22 = κ1 22 := w2 22 (by omega) (by omega) (by omega) (by omega) (by omega)
      have k26 : κ2 6 = μ 6 := all2 6 (by omega) (by omega) (by omega)
      have k217 : κ2 17 = μ 17 := all2 17 (by omega) (by omega) (by omega)
      have hP : PR ν w n κ2 := by
        refine ⟨?_, ?_, ?_, ?_, ⟨by rw [k27]; exact f1, by omega, f3⟩, fun j hj => ?_, ?_⟩
        · exact Isite2_fr a6 (fun a ha => all2 a (by unfold sC at ha; omega) (by unfold sC at ha; omega) (by unfold sC at ha; omega)) (fun _ _ => rfl) rfl rfl rfl rfl rfl
        · rw [k217]; exact a5
        · rw [all2 1 (by omega) (by omega) (by omega), all2 9 (by omega) (by omega) (by omega), all2 10 (by omega) (by omega) (by omega), all2 11 (by omega) (by omega) (by omega)]
          exact a2
        · rw [all2 1 (by omega) (by omega) (by omega), all2 9 (by omega) (by omega) (by omega), all2 10 (by omega) (by omega) (by omega), all2 11 (by omega) (by omega) (by omega), all2 12 (by omega) (by omega) (by omega), all2 13 (by omega) (by omega) (by omega)]
          exact a3
        · rw [k221, k26]
          exact ⟨(f4 j hj).1, (f4 j hj).2.2.2.1, (f4 j hj).2.2.2.2⟩
        · rw [k26, k217]
          rw [k6, k17] at w3
          exact w3
      obtain ⟨v, κ3, x1, x2, x3⟩ := c_ptail hP (fun g hg => by rw [w4 g hg, k26, k6]) (by rw [k26]; exact ⟨i2, i3⟩) (fun j hj => by rw [k222]; exact (f4 j hj).2.1)
      obtain ⟨GG, hGG⟩ : ∃ z : Nat, μ 6 5 = (z : Int) := ⟨(μ 6 5).toNat, by omega⟩
      obtain ⟨v2, η2, y1, y2, y3, y4⟩ := r_pmid hP e3 hnr f2 (fun i hi => (f4 i hi).2.2.1) (GG := GG) (by rw [k26]; exact hGG) m
      rw [k26] at y1
      obtain ⟨z1, z2⟩ := p_join hP (GG := GG) (by rw [k26]; exact hGG) x3 y4
      subst z1
      have mk : f_X1_makePlan μ = planT κ2 := by
        unfold f_X1_makePlan
        rw [g1, bd_some, if_neg (by decide), if_neg (by rw [f1]; omega)]
        unfold f_X1_prepareWorks
        rw [w1, bd_some]
        rfl
      have all3 : ∀ a, a ≠ 7 → ¬ (21 ≤ a ∧ a ≤ 30) → ¬ (40 ≤ a ∧ a < 50) → κ3 a = μ a := fun a q1 q2 q3 => by
        rw [x2.1 a q1 (by omega) (by omega)]
        exact all2 a q1 q2 q3
      refine fin v2 κ3 η2 (by rw [mk, x1]) (by rw [p1, e6, y1]) all3 y2 y3 (fun j => by rw [x2.1 21 (by decide) (by decide) (by decide), k221]; exact e4 j) ?_
      rcases z2 with ⟨s1, s2, s3, s4⟩ | ⟨s1, s2, s3⟩
      · rw [s1, s3, k27, c17]
        refine Iplan2_fr a8 (fun a q1 q2 => ?_) s4
        rw [s2 a q1 q2, w2 a (by omega) (by omega) (by omega) (by omega) (by omega)]
        exact e2.1 a (by omega) (by omega) (by omega)
      · rw [s1, s2]
        exact ⟨rfl, by omega, by omega, fun k hk => s3 k (by omega)⟩
