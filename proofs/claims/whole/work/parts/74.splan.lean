/-! THE PLAN: the step -/
theorem Inv2_rows {μ ν : Mem} (h : Inv2 μ ν) : ∀ j, μ 19 j < 300 ∧ μ 20 j < 300 ∧ μ 21 j < 300 := by
  obtain ⟨-, -, -, -, -, a6, a7, -⟩ := h
  have n0 := sN_n (sN_of a6)
  intro j
  have b1 := a7.1 j
  have b2 := a7.2.1 j
  have b3 := a7.2.2 j
  refine ⟨?_, ?_, ?_⟩ <;> omega
theorem step2n_of {f g : Mem → Option (Int × Mem)} {μ : Mem} (h : Inv μ) (hs : ∀ ν, Inv2 μ ν → (∀ j, ν 19 j < 300 ∧ ν 20 j < 300 ∧ ν 21 j < 300) → Step2 f g μ ν) : Same0 Inv f g μ := by
  have h2 := Inv_2.mp h
  obtain ⟨r, μ1, e1, k1, k2, k0⟩ := wp_some (hs μ h2 (Inv2_rows h2))
  have h3 : Inv2 μ μ1 := Inv2_mix h2 (fun _ _ => rfl) k1
  obtain ⟨r0, ν0, -, -, -, k5⟩ := wp_some k0
  obtain ⟨r', μ1', e1', -, -, k3⟩ := wp_some (hs μ1 h3 (Inv2_rows k5))
  have he := e1.symm.trans e1'
  cases he
  obtain ⟨r2, ν', e2, e3, e4, e5⟩ := wp_some k3
  subst e3
  refine ⟨r2, μ1, ν', e1, e2, k2, e4 90 (by omega), Inv_2.mpr (Inv2_mix e5 e4 (fun _ _ => rfl))⟩
theorem plan_inv {μ ν κ η : Mem} (h : Inv2 μ ν) (hc : ∀ a, a ≠ 7 → ¬ (21 ≤ a ∧ a ≤ 30) → ¬ (40 ≤ a ∧ a < 50) → κ a = μ a) (hr : ∀ a, a ≠ 300 → ¬ (320 ≤ a ∧ a ≤ 330) → a ≠ 399 → η a = ν a) (hr3 : ∀ j, j ≠ 32 → j ≠ 33 → η 300 j = ν 300 j) (h21 : ∀ j, κ 21 j < 100 + μ 6 6) (hp : Iplan2 (κ 7 17) (η 300 33) κ η) : Inv2 κ η := by
  obtain ⟨a1, a2, a3, a4, a5, a6, a7, a8, a9, a10⟩ := h
  have n0 := sN_n (sN_of a6)
  have b6 : Isite2 κ η := Isite2_fr a6 (fun a ha => hc a (by unfold sC at ha; omega) (by unfold sC at ha; omega) (by unfold sC at ha; omega)) (fun a ha => hr a (by unfold sR at ha; omega) (by unfold sR at ha; omega) (by unfold sR at ha; omega)) (hr3 _ (by decide) (by decide)) (hr3 _ (by decide) (by decide)) (hr3 _ (by decide) (by decide)) (hr3 _ (by decide) (by decide)) (hr3 _ (by decide) (by decide))
  have b7 : Irefs κ := by
    unfold Irefs
    rw [hc 19 (by omega) (by omega) (by omega), hc 20 (by omega) (by omega) (by omega), hc 90 (by omega) (by omega) (by omega)]
    refine ⟨a7.1, a7.2.1, fun j => ?_⟩
    have := h21 j
    omega
  unfold Inv2
  rw [hc 2 (by omega) (by omega) (by omega), hc 14 (by omega) (by omega) (by omega), hc 15 (by omega) (by omega) (by omega), hr3 3 (by decide) (by decide), hr3 15 (by decide) (by decide), hr 306 (by omega) (by omega) (by omega), hr 307 (by omega) (by omega) (by omega), hc 1 (by omega) (by omega) (by omega), hr3 4 (by decide) (by decide), hc 9 (by omega) (by omega) (by omega), hc 10 (by omega) (by omega) (by omega), hc 11 (by omega) (by omega) (by omega), hr 308 (by omega) (by omega) (by omega), hr 309 (by omega) (by omega) (by omega), hr 310 (by omega) (by omega) (by omega), hc 12 (by omega) (by omega) (by omega), hc 13 (by omega) (by omega) (by omega), hc 3 (by omega) (by omega) (by omega), hr3 19 (by decide) (by decide), hc 16 (by omega) (by omega) (by omega), hr 311 (by omega) (by omega) (by omega), hc 17 (by omega) (by omega) (by omega), hr 312 (by omega) (by omega) (by omega), hc 8 (by omega) (by omega) (by omega), hr3 45 (by decide) (by decide), hc 32 (by omega) (by omega) (by omega), hc 33 (by omega) (by omega) (by omega), hc 34 (by omega) (by omega) (by omega), hc 35 (by omega) (by omega) (by omega), hr 331 (by omega) (by omega) (by omega), hr 332 (by omega) (by omega) (by omega), hr 333 (by omega) (by omega) (by omega), hr 334 (by omega) (by omega) (by omega)]
  exact ⟨a1, a2, a3, a4, a5, b6, b7, hp, a9, a10⟩
theorem newP_ne {μ : Mem} {a : Nat} (h : a ≠ 399) : newP μ a = μ a := by
  unfold newP
  rw [if_neg h]
/-- the reference from gathered stones on, when there are some -/
theorem r_pmid {μ ν η1 : Mem} {w : Nat → Nat} {n : Nat} (h : PR ν w n μ) (hR : gR ν η1) (hnr : ∀ j, ν 19 j < 300 ∧ ν 20 j < 300 ∧ ν 21 j < 300) (h32 : η1 300 32 = (n : Int)) (h320 : ∀ i, i < n → η1 320 i = (w i : Int)) {GG : Nat} (hGG : μ 6 5 = (GG : Int)) (m : Nat) : ∃ v η, f_X11_plan_7 (m + 1) (μ 6 6) η1 = some (v, η) ∧ (∀ a, a ≠ 300 → ¬ (320 ≤ a ∧ a ≤ 330) → a ≠ 399 → η a = ν a) ∧ (∀ j, j ≠ 32 → j ≠ 33 → η 300 j = ν 300 j) ∧ refEnd ν w n μ GG ν v η := by
  obtain ⟨b1, -, b2, -, ⟨h75, hn1, hn5⟩, -, -⟩ := id h
  have h' := h
  have n0 := sN_n (sN_of b1)
  have n9 : μ 6 9 ≤ 3001 := b1.1.2.2.1
  obtain ⟨ηa, hηa⟩ : ∃ z, z = up η1 330 3001 (-1) := ⟨_, rfl⟩
  have na : ∀ a, a ≠ 330 → ηa a = η1 a := fun a ha => by rw [hηa, up_ne ha]
  have is : ∀ m : Mem, (∀ a, a ≠ 330 → m a = ηa a) → ∀ d, f_X11_is m 0 d = some (b2i (Hd μ d), m) := by
    intro m hm d
    have e4 : m 300 4 = ν 300 4 := by rw [hm 300 (by omega), na 300 (by omega)]; exact hR.2 4 (by decide)
    have g1 := b2.1
    have g2 := b2.2.1
    have g3 := b2.2.2.1
    rw [e_is (by omega) (by omega), e4, hm 308 (by omega), na 308 (by omega), hR.1 308 (by omega) (by omega), hm 309 (by omega), na 309 (by omega), hR.1 309 (by omega) (by omega), hm 310 (by omega), na 310 (by omega), hR.1 310 (by omega) (by omega)]
    have e : isOnP (ν 300 4) (ν 308) (ν 309) (ν 310) 0 d = Hd μ d := propext (isOn_same b2 0 d)
    rw [e]
  have t6 := h'.2.1 6 (by decide)
  obtain ⟨η2, q1, q2, q3⟩ := r_rivers (H := Hd μ) (R := μ 17 6) ⟨t6.2.1, t6.2.2.1⟩ 3001 3100 0 ηa (by omega) (by omega) (by rw [na 312 (by omega), hR.1 312 (by omega) (by omega)]; exact t6.1) (is ηa (fun _ _ => rfl)) is (fun j hj => by
    have : j = 0 := by omega
    subst this
    rw [hηa, up_at]
    exact upf_same) (Int.le_refl 0) (Int.le_refl 0)
  have q1' : f_X11_rivers η1 = some (0, η2) := by
    unfold f_X11_rivers
    rw [lm_e, ← hηa]
    exact q1
  have n2 : ∀ a, a ≠ 330 → η2 a = η1 a := fun a ha => by rw [q2 a ha]; exact na a ha
  have nr2 : ∀ j, η2 19 j < 300 ∧ η2 20 j < 300 ∧ η2 21 j < 300 := fun j => by
    rw [n2 19 (by omega), n2 20 (by omega), n2 21 (by omega), hR.1 19 (by omega) (by omega), hR.1 20 (by omega) (by omega), hR.1 21 (by omega) (by omega)]
    exact hnr j
  have hq : PQ ν w n μ (newP η2) := by
    refine ⟨fun a ha => ?_, fun j hj => ?_, ?_, fun i hi => ?_, fun j hj => ?_⟩
    · rw [newP_ne (by omega), n2 a (by omega), hR.1 a (by omega) (by omega)]
    · rw [newP_ne (by omega), n2 300 (by omega), hR.2 j hj]
    · rw [newP_ne (by omega), n2 300 (by omega), h32]
    · rw [newP_ne (by omega), n2 320 (by omega), h320 i hi]
    · rw [newP_ne (by omega)]
      exact q3 j hj
  obtain ⟨v, η, w1, w2, w3, w4⟩ := r_ptail h' hq (fun k => by unfold newP; rw [if_pos rfl]) (fun j => by rw [newP_ne (by omega), newP_ne (by omega), newP_ne (by omega)]; exact nr2 j) n9 hGG
  refine ⟨v, η, ?_, fun a x1 x2 x3 => ?_, fun j j1 j2 => ?_, ?_⟩
  · rw [f_X11_plan_7_e, if_pos (by rw [hR.2 26 (by decide)]; omega), if_neg (by omega), q1', bd_some, if_pos (nr_ok nr2), lm_e, w1]
  · rw [w2 a (by omega) x3 x1, newP_ne x3, n2 a (by omega), hR.1 a x1 (by omega)]
  · rw [w3 j j2, hq.2.1 j j1]
  · rcases w4 with ⟨z1, z2, z3, z4⟩ | z
    · refine Or.inl ⟨z1, by rw [z2, hq.2.1 33 (by decide)], fun a y1 y2 => ?_, z4⟩
      rw [z3 a y1 y2, newP_ne (by omega), n2 a (by omega), hR.1 a (by omega) (by omega)]
    · exact Or.inr z
