/-! SPELL: the high days as runs -/
def runLo (frm : Int) (rf rl : Nat → Int) (i : Nat) (v3 : Int) : Prop := v3 = frm ∨ ∃ x, x < i ∧ v3 = rf x ∧ frm - 1 ≤ rl x
def runHi (to : Int) (rl : Nat → Int) (i : Nat) (v4 : Int) : Prop := v4 = to ∨ ∃ x, x < i ∧ v4 = rl x
def runsK (frm to : Int) (R : Nat) (rf rl a b : Nat → Int) (kept i : Nat) (v3 v4 : Int) : Prop :=
  (∀ j, j < kept → 0 ≤ a j ∧ a j ≤ b j ∧ b j ≤ 3000 ∧ (b j < frm - 1 ∨ to + 1 < a j) ∧ (b j + 1 < v3 ∨ v4 + 1 < a j)) ∧
  (∀ j k, j < k → k < kept → b j + 1 < a k) ∧
  (v3 ≤ frm ∧ to ≤ v4 ∧ 0 ≤ v3 ∧ v4 ≤ 3000) ∧
  runLo frm rf rl i v3 ∧ runHi to rl i v4 ∧
  (∀ j x, j < kept → i ≤ x → x < R → b j + 1 < rf x) ∧
  (∀ d : Int, ((∃ j, j < kept ∧ a j ≤ d ∧ d ≤ b j) ∨ (v3 ≤ d ∧ d ≤ v4)) ↔ ((∃ x, x < i ∧ rf x ≤ d ∧ d ≤ rl x) ∨ (frm ≤ d ∧ d ≤ to)))
theorem runsK_0 {frm to : Int} {R : Nat} {rf rl a b : Nat → Int} (h0 : 0 ≤ frm) (h1 : to ≤ 3000) : runsK frm to R rf rl a b 0 0 frm to := by
  refine ⟨fun j hj => by omega, fun j k h1 h2 => by omega, by omega, Or.inl rfl, Or.inl rfl, fun j x hj => by omega, fun d => ?_⟩
  constructor
  · rintro (⟨j, hj, -⟩ | h)
    · omega
    · exact Or.inr h
  · rintro (⟨j, hj, -⟩ | h)
    · omega
    · exact Or.inr h
theorem runsK_merge {frm to : Int} {R : Nat} {rf rl a b : Nat → Int} {kept i : Nat} {v3 v4 w3 w4 : Int} (h : runsK frm to R rf rl a b kept i v3 v4) (hft : frm ≤ to) (hi : i < R) (hv : 0 ≤ rf i ∧ rf i ≤ rl i ∧ rl i ≤ 3000) (t1 : frm - 1 ≤ rl i) (t2 : rf i ≤ to + 1) (h3 : (w3 = rf i ∧ rf i < v3) ∨ (w3 = v3 ∧ v3 ≤ rf i)) (h4 : (w4 = rl i ∧ v4 < rl i) ∨ (w4 = v4 ∧ rl i ≤ v4)) : runsK frm to R rf rl a b kept (i + 1) w3 w4 := by
  obtain ⟨k1, k2, k3, k4, k5, k6, k7⟩ := h
  refine ⟨fun j hj => ?_, k2, by omega, ?_, ?_, fun j x hj hx hx2 => k6 j x hj (by omega) hx2, fun d => ?_⟩
  · have q := k1 j hj
    have q6 := k6 j i hj (Nat.le_refl i) hi
    exact ⟨q.1, q.2.1, q.2.2.1, q.2.2.2.1, by omega⟩
  · rcases h3 with ⟨e, -⟩ | ⟨e, -⟩
    · exact Or.inr ⟨i, by omega, e, t1⟩
    · rcases k4 with k4 | ⟨x, x1, x2, x3⟩
      · exact Or.inl (by omega)
      · exact Or.inr ⟨x, by omega, by omega, x3⟩
  · rcases h4 with ⟨e, -⟩ | ⟨e, -⟩
    · exact Or.inr ⟨i, by omega, e⟩
    · rcases k5 with k5 | ⟨x, x1, x2⟩
      · exact Or.inl (by omega)
      · exact Or.inr ⟨x, by omega, by omega⟩
  · constructor
    · rintro (⟨j, hj, hd⟩ | hd)
      · rcases (k7 d).mp (Or.inl ⟨j, hj, hd⟩) with ⟨x, x1, x2⟩ | x2
        · exact Or.inl ⟨x, by omega, x2⟩
        · exact Or.inr x2
      · by_cases c : rf i ≤ d ∧ d ≤ rl i
        · exact Or.inl ⟨i, by omega, c⟩
        · rcases (k7 d).mp (Or.inr (by omega)) with ⟨x, x1, x2⟩ | x2
          · exact Or.inl ⟨x, by omega, x2⟩
          · exact Or.inr x2
    · rintro (⟨x, x1, x2⟩ | hd)
      · by_cases c : x = i
        · subst c
          exact Or.inr (by omega)
        · rcases (k7 d).mpr (Or.inl ⟨x, by omega, x2⟩) with ⟨j, hj⟩ | hd
          · exact Or.inl ⟨j, hj⟩
          · exact Or.inr (by omega)
      · exact Or.inr (by omega)
theorem runsK_keep {frm to : Int} {R : Nat} {rf rl a b : Nat → Int} {kept i : Nat} {v3 v4 : Int} (h : runsK frm to R rf rl a b kept i v3 v4) (hft : frm ≤ to) (hi : i < R) (hv : 0 ≤ rf i ∧ rf i ≤ rl i ∧ rl i ≤ 3000) (hS : ∀ x y, x < y → y < R → rl x + 1 < rf y) (t : rl i < frm - 1 ∨ to + 1 < rf i) : runsK frm to R rf rl (upf a kept (rf i)) (upf b kept (rl i)) (kept + 1) (i + 1) v3 v4 := by
  obtain ⟨k1, k2, k3, k4, k5, k6, k7⟩ := h
  refine ⟨fun j hj => ?_, fun j k hjk hk => ?_, k3, ?_, ?_, fun j x hj hx hx2 => ?_, fun d => ?_⟩
  · by_cases c : j = kept
    · subst c
      rw [upf_same, upf_same]
      refine ⟨hv.1, hv.2.1, hv.2.2, t, ?_⟩
      rcases t with t | t
      · left
        rcases k4 with k4 | ⟨x, x1, x2, x3⟩
        · omega
        · have := hS x i x1 hi
          omega
      · right
        rcases k5 with k5 | ⟨x, x1, x2⟩
        · omega
        · have := hS x i x1 hi
          omega
    · rw [upf_ne c, upf_ne c]
      exact k1 j (by omega)
  · rw [upf_ne (show j ≠ kept by omega)]
    by_cases c : k = kept
    · subst c
      rw [upf_same]
      exact k6 j i hjk (Nat.le_refl i) hi
    · rw [upf_ne c]
      exact k2 j k hjk (by omega)
  · rcases k4 with k4 | ⟨x, x1, x2⟩
    · exact Or.inl k4
    · exact Or.inr ⟨x, by omega, x2⟩
  · rcases k5 with k5 | ⟨x, x1, x2⟩
    · exact Or.inl k5
    · exact Or.inr ⟨x, by omega, x2⟩
  · by_cases c : j = kept
    · subst c
      rw [upf_same]
      exact hS i x (by omega) hx2
    · rw [upf_ne c]
      exact k6 j x (by omega) (by omega) hx2
  · constructor
    · rintro (⟨j, hj, hd⟩ | hd)
      · by_cases c : j = kept
        · subst c
          rw [upf_same, upf_same] at hd
          exact Or.inl ⟨i, by omega, hd⟩
        · rw [upf_ne c, upf_ne c] at hd
          rcases (k7 d).mp (Or.inl ⟨j, by omega, hd⟩) with ⟨x, x1, x2⟩ | x2
          · exact Or.inl ⟨x, by omega, x2⟩
          · exact Or.inr x2
      · rcases (k7 d).mp (Or.inr hd) with ⟨x, x1, x2⟩ | x2
        · exact Or.inl ⟨x, by omega, x2⟩
        · exact Or.inr x2
    · rintro (⟨x, x1, x2⟩ | hd)
      · by_cases c : x = i
        · subst c
          refine Or.inl ⟨kept, by omega, ?_⟩
          rw [upf_same, upf_same]
          exact x2
        · rcases (k7 d).mpr (Or.inl ⟨x, by omega, x2⟩) with ⟨j, hj, hj2⟩ | hd
          · refine Or.inl ⟨j, by omega, ?_⟩
            rw [upf_ne (show j ≠ kept by omega), upf_ne (show j ≠ kept by omega)]
            exact hj2
          · exact Or.inr hd
      · rcases (k7 d).mpr (Or.inr hd) with ⟨j, hj, hj2⟩ | hd
        · refine Or.inl ⟨j, by omega, ?_⟩
          rw [upf_ne (show j ≠ kept by omega), upf_ne (show j ≠ kept by omega)]
          exact hj2
        · exact Or.inr hd
theorem e_addRun_11 {frm to : Int} {R : Nat} {rf rl : Nat → Int} (hft : 0 ≤ frm ∧ frm ≤ to ∧ to ≤ 3000) (hR : R < 40) (hv : ∀ x, x < R → 0 ≤ rf x ∧ rf x ≤ rl x ∧ rl x ≤ 3000) (hS : ∀ x y, x < y → y < R → rl x + 1 < rf y) : ∀ (d n kept i : Nat) (μ : Mem) (v3 v4 : Int), i + d = R → d < n → kept ≤ i → (∀ j, i ≤ j → j < R → μ 12 j = rf j ∧ μ 13 j = rl j) → μ 1 6 = (R : Int) → runsK frm to R rf rl (μ 12) (μ 13) kept i v3 v4 → ∃ (κ : Mem) (k' : Nat) (w3 w4 : Int), f_X2_addRun_11 n frm to v3 v4 (kept : Int) (i : Int) μ = f_X2_addRun_124 64 w3 w4 (k' : Int) (k' : Int) κ ∧ (∀ b, b ≠ 12 → b ≠ 13 → κ b = μ b) ∧ k' ≤ R ∧ runsK frm to R rf rl (κ 12) (κ 13) k' R w3 w4
  | 0, n + 1, kept, i, μ, v3, v4, h1, h2, h3, h4, h5, h6 => by
    refine ⟨μ, kept, v3, v4, ?_, fun _ _ _ => rfl, by omega, ?_⟩
    · rw [f_X2_addRun_11_e]
      simp (disch := omega) only [bd_some, lm_e, if_pos, if_neg, up_ne, up_at, upf_same, upf_ne, reduceIte, or_true, true_or, Int.reduceToNat, Int.toNat_natCast, tn100, tn200]
    · rw [show R = i by omega] at h6 ⊢
      exact h6
  | d + 1, n + 1, kept, i, μ, v3, v4, h1, h2, h3, h4, h5, h6 => by
    have hi : i < R := by omega
    obtain ⟨r1, r2⟩ := h4 i (Nat.le_refl i) hi
    have hvi := hv i hi
    rw [f_X2_addRun_11_e]
    by_cases t : rl i < frm - 1 ∨ to + 1 < rf i
    · have hk := runsK_keep h6 hft.2.1 hi hvi hS t
      obtain ⟨κ, k', w3, w4, e1, e2, e3, e4⟩ := e_addRun_11 hft hR hv hS d n (kept + 1) (i + 1) (up (up μ 12 kept (rf i)) 13 kept (rl i)) v3 v4 (by omega) (by omega) (by omega) (fun j j1 j2 => by
        have q := h4 j (by omega) j2
        simp (disch := omega) only [bd_some, lm_e, if_pos, if_neg, up_ne, up_at, upf_same, upf_ne, reduceIte, or_true, true_or, Int.reduceToNat, Int.toNat_natCast, tn100, tn200]
        exact q) (by simp (disch := omega) only [bd_some, lm_e, if_pos, if_neg, up_ne, up_at, upf_same, upf_ne, reduceIte, or_true, true_or, Int.reduceToNat, Int.toNat_natCast, tn100, tn200]; exact h5) (by
        simp (disch := omega) only [bd_some, lm_e, if_pos, if_neg, up_ne, up_at, upf_same, upf_ne, reduceIte, or_true, true_or, Int.reduceToNat, Int.toNat_natCast, tn100, tn200]
        exact hk)
      have key : f_X2_addRun_46 (f_X2_addRun_11 n) frm to v3 v4 (kept : Int) (i : Int) μ = f_X2_addRun_124 64 w3 w4 (k' : Int) (k' : Int) κ := by
        unfold f_X2_addRun_46
        simp (disch := omega) only [Int.toNat_natCast, r1, r2, bd_some, lm_e, if_pos, if_neg, up_ne, up_at, upf_same, upf_ne, reduceIte, or_true, true_or, Int.reduceToNat, Int.toNat_natCast, tn100, tn200]
        rw [show ((kept : Int) + 1) = ((kept + 1 : Nat) : Int) by omega, show ((i : Int) + 1) = ((i + 1 : Nat) : Int) by omega]
        exact e1
      refine ⟨κ, k', w3, w4, ?_, fun b b1 b2 => by rw [e2 b b1 b2]; simp (disch := omega) only [bd_some, lm_e, if_pos, if_neg, up_ne, up_at, upf_same, upf_ne, reduceIte, or_true, true_or, Int.reduceToNat, Int.toNat_natCast, tn100, tn200], e3, e4⟩
      by_cases t1 : rl i < frm - 1
      · simp (disch := omega) only [Int.toNat_natCast, r1, r2, key, bd_some, lm_e, if_pos, if_neg, up_ne, up_at, upf_same, upf_ne, reduceIte, or_true, true_or, Int.reduceToNat, Int.toNat_natCast, tn100, tn200]
      · simp (disch := omega) only [Int.toNat_natCast, r1, r2, key, bd_some, lm_e, if_pos, if_neg, up_ne, up_at, upf_same, upf_ne, reduceIte, or_true, true_or, Int.reduceToNat, Int.toNat_natCast, tn100, tn200]
    · have go : ∀ w3 w4 : Int, ((w3 = rf i ∧ rf i < v3) ∨ (w3 = v3 ∧ v3 ≤ rf i)) → ((w4 = rl i ∧ v4 < rl i) ∨ (w4 = v4 ∧ rl i ≤ v4)) → ∃ (κ : Mem) (k' : Nat) (u3 u4 : Int), f_X2_addRun_11 n frm to w3 w4 (kept : Int) ((i : Int) + 1) μ = f_X2_addRun_124 64 u3 u4 (k' : Int) (k' : Int) κ ∧ (∀ b, b ≠ 12 → b ≠ 13 → κ b = μ b) ∧ k' ≤ R ∧ runsK frm to R rf rl (κ 12) (κ 13) k' R u3 u4 := by
        intro w3 w4 q3 q4
        have hk := runsK_merge h6 hft.2.1 hi hvi (by omega) (by omega) q3 q4
        rw [show ((i : Int) + 1) = ((i + 1 : Nat) : Int) by omega]
        exact e_addRun_11 hft hR hv hS d n kept (i + 1) μ w3 w4 (by omega) (by omega) (by omega) (fun j j1 j2 => h4 j (by omega) j2) h5 hk
      by_cases c3 : rf i < v3
      · by_cases c4 : v4 < rl i
        · obtain ⟨κ, k', w3, w4, e1, e2⟩ := go (rf i) (rl i) (by omega) (by omega)
          refine ⟨κ, k', w3, w4, ?_, e2⟩
          rw [← e1]
          unfold f_J9_min_7cf53 f_J9_max_7cf53
          simp (disch := omega) only [Int.toNat_natCast, r1, r2, bd_some, lm_e, if_pos, if_neg, up_ne, up_at, upf_same, upf_ne, reduceIte, or_true, true_or, Int.reduceToNat, Int.toNat_natCast, tn100, tn200]
        · obtain ⟨κ, k', w3, w4, e1, e2⟩ := go (rf i) v4 (by omega) (by omega)
          refine ⟨κ, k', w3, w4, ?_, e2⟩
          rw [← e1]
          unfold f_J9_min_7cf53 f_J9_max_7cf53
          simp (disch := omega) only [Int.toNat_natCast, r1, r2, bd_some, lm_e, if_pos, if_neg, up_ne, up_at, upf_same, upf_ne, reduceIte, or_true, true_or, Int.reduceToNat, Int.toNat_natCast, tn100, tn200]
      · by_cases c4 : v4 < rl i
        · obtain ⟨κ, k', w3, w4, e1, e2⟩ := go v3 (rl i) (by omega) (by omega)
          refine ⟨κ, k', w3, w4, ?_, e2⟩
          rw [← e1]
          unfold f_J9_min_7cf53 f_J9_max_7cf53
          simp (disch := omega) only [Int.toNat_natCast, r1, r2, bd_some, lm_e, if_pos, if_neg, up_ne, up_at, upf_same, upf_ne, reduceIte, or_true, true_or, Int.reduceToNat, Int.toNat_natCast, tn100, tn200]
        · obtain ⟨κ, k', w3, w4, e1, e2⟩ := go v3 v4 (by omega) (by omega)
          refine ⟨κ, k', w3, w4, ?_, e2⟩
          rw [← e1]
          unfold f_J9_min_7cf53 f_J9_max_7cf53
          simp (disch := omega) only [Int.toNat_natCast, r1, r2, bd_some, lm_e, if_pos, if_neg, up_ne, up_at, upf_same, upf_ne, reduceIte, or_true, true_or, Int.reduceToNat, Int.toNat_natCast, tn100, tn200]
/-- the place is found, the rest moves up by one -/
def insR (κ : Mem) (kept : Nat) (v3 v4 : Int) (p : Nat) (μ' : Mem) : Prop :=
  p ≤ kept ∧ (p = 0 ∨ κ 12 (p - 1) ≤ v3) ∧ (∀ j, p ≤ j → j < kept → v3 < κ 12 j) ∧ (∀ b, b ≠ 12 → b ≠ 13 → b ≠ 1 → μ' b = κ b) ∧ (∀ j, j ≠ 6 → μ' 1 j = κ 1 j) ∧ μ' 1 6 = (kept : Int) + 1 ∧ (∀ j, j < p → μ' 12 j = κ 12 j ∧ μ' 13 j = κ 13 j) ∧ (μ' 12 p = v3 ∧ μ' 13 p = v4) ∧ (∀ j, p ≤ j → j < kept → μ' 12 (j + 1) = κ 12 j ∧ μ' 13 (j + 1) = κ 13 j)
theorem ins_end {κ : Mem} {kept : Nat} {v3 v4 : Int} (hk : kept < 40) (p : Nat) (μ : Mem) (h1 : p ≤ kept) (h2 : p = 0 ∨ κ 12 (p - 1) ≤ v3) (h3 : ∀ b, b ≠ 12 → b ≠ 13 → μ b = κ b) (h4 : ∀ j, j < p → μ 12 j = κ 12 j ∧ μ 13 j = κ 13 j) (h5 : ∀ j, p ≤ j → j < kept → μ 12 (j + 1) = κ 12 j ∧ μ 13 (j + 1) = κ 13 j ∧ v3 < κ 12 j) : ∃ μ', f_X2_addRun_180 v3 v4 (kept : Int) (p : Int) μ = some (0, μ') ∧ insR κ kept v3 v4 p μ' := by
  refine ⟨up (up (up μ 12 p v3) 13 p v4) 1 6 ((kept : Int) + 1), ?_, h1, h2, fun j j1 j2 => (h5 j j1 j2).2.2, fun b b1 b2 b3 => ?_, fun j hj => ?_, by simp (disch := omega) only [bd_some, lm_e, if_pos, if_neg, up_ne, up_at, upf_same, upf_ne, reduceIte, or_true, true_or, Int.reduceToNat, Int.toNat_natCast, tn100, tn200], fun j hj => ?_, ⟨by simp (disch := omega) only [bd_some, lm_e, if_pos, if_neg, up_ne, up_at, upf_same, upf_ne, reduceIte, or_true, true_or, Int.reduceToNat, Int.toNat_natCast, tn100, tn200], by simp (disch := omega) only [bd_some, lm_e, if_pos, if_neg, up_ne, up_at, upf_same, upf_ne, reduceIte, or_true, true_or, Int.reduceToNat, Int.toNat_natCast, tn100, tn200]⟩, fun j j1 j2 => ?_⟩
  · unfold f_X2_addRun_180
    simp (disch := omega) only [bd_some, lm_e, if_pos, if_neg, up_ne, up_at, upf_same, upf_ne, reduceIte, or_true, true_or, Int.reduceToNat, Int.toNat_natCast, tn100, tn200]
  · simp (disch := omega) only [bd_some, lm_e, if_pos, if_neg, up_ne, up_at, upf_same, upf_ne, reduceIte, or_true, true_or, Int.reduceToNat, Int.toNat_natCast, tn100, tn200]
    exact h3 b b1 b2
  · simp (disch := omega) only [bd_some, lm_e, if_pos, if_neg, up_ne, up_at, upf_same, upf_ne, reduceIte, or_true, true_or, Int.reduceToNat, Int.toNat_natCast, tn100, tn200]
    rw [h3 1 (by decide) (by decide)]
  · simp (disch := omega) only [bd_some, lm_e, if_pos, if_neg, up_ne, up_at, upf_same, upf_ne, reduceIte, or_true, true_or, Int.reduceToNat, Int.toNat_natCast, tn100, tn200]
    exact h4 j hj
  · simp (disch := omega) only [bd_some, lm_e, if_pos, if_neg, up_ne, up_at, upf_same, upf_ne, reduceIte, or_true, true_or, Int.reduceToNat, Int.toNat_natCast, tn100, tn200]
    exact ⟨(h5 j j1 j2).1, (h5 j j1 j2).2.1⟩
theorem e_addRun_124 {κ : Mem} {kept : Nat} {v3 v4 : Int} (hk : kept < 40) : ∀ (q n : Nat) (μ : Mem), q ≤ kept → q < n → (∀ b, b ≠ 12 → b ≠ 13 → μ b = κ b) → (∀ j, j < q → μ 12 j = κ 12 j ∧ μ 13 j = κ 13 j) → (∀ j, q ≤ j → j < kept → μ 12 (j + 1) = κ 12 j ∧ μ 13 (j + 1) = κ 13 j ∧ v3 < κ 12 j) → ∃ (p : Nat) (μ' : Mem), f_X2_addRun_124 n v3 v4 (kept : Int) (q : Int) μ = some (0, μ') ∧ insR κ kept v3 v4 p μ'
  | 0, n + 1, μ, h1, h2, h3, h4, h5 => by
    obtain ⟨μ', q1, q2⟩ := ins_end hk 0 μ h1 (Or.inl rfl) h3 h4 h5
    refine ⟨0, μ', ?_, q2⟩
    rw [f_X2_addRun_124_e, if_pos (by omega)]
    exact q1
  | q + 1, n + 1, μ, h1, h2, h3, h4, h5 => by
    obtain ⟨r1, r2⟩ := h4 q (by omega)
    rw [f_X2_addRun_124_e]
    have hc : (((q + 1 : Nat) : Int) - 1).toNat = q := by omega
    have hc2 : (((q + 1 : Nat) : Int)).toNat = q + 1 := by omega
    have hc3 : ((q + 1 : Nat) : Int) + (-1) = (q : Int) := by omega
    by_cases c : κ 12 q ≤ v3
    · obtain ⟨μ', q1, q2⟩ := ins_end hk (q + 1) μ h1 (Or.inr c) h3 h4 h5
      refine ⟨q + 1, μ', ?_, q2⟩
      simp (disch := omega) only [hc, r1, bd_some, lm_e, if_pos, if_neg, up_ne, up_at, upf_same, upf_ne, reduceIte, or_true, true_or, Int.reduceToNat, Int.toNat_natCast, tn100, tn200]
      exact q1
    · obtain ⟨p, μ', q1, q2⟩ := e_addRun_124 (κ := κ) (v3 := v3) (v4 := v4) hk q n (up (up μ 12 (q + 1) (κ 12 q)) 13 (q + 1) (κ 13 q)) (by omega) (by omega) (fun b b1 b2 => by
        simp (disch := omega) only [bd_some, lm_e, if_pos, if_neg, up_ne, up_at, upf_same, upf_ne, reduceIte, or_true, true_or, Int.reduceToNat, Int.toNat_natCast, tn100, tn200]
        exact h3 b b1 b2) (fun j hj => by
        simp (disch := omega) only [bd_some, lm_e, if_pos, if_neg, up_ne, up_at, upf_same, upf_ne, reduceIte, or_true, true_or, Int.reduceToNat, Int.toNat_natCast, tn100, tn200]
        exact h4 j (by omega)) (fun j j1 j2 => by
        by_cases e : j = q
        · subst e
          simp (disch := omega) only [bd_some, lm_e, if_pos, if_neg, up_ne, up_at, upf_same, upf_ne, reduceIte, or_true, true_or, Int.reduceToNat, Int.toNat_natCast, tn100, tn200]
          exact ⟨trivial, trivial, by omega⟩
        · simp (disch := omega) only [bd_some, lm_e, if_pos, if_neg, up_ne, up_at, upf_same, upf_ne, reduceIte, or_true, true_or, Int.reduceToNat, Int.toNat_natCast, tn100, tn200]
          exact h5 j (by omega) j2)
      refine ⟨p, μ', ?_, q2⟩
      simp (disch := omega) only [hc, hc2, hc3, r1, r2, bd_some, lm_e, if_pos, if_neg, up_ne, up_at, upf_same, upf_ne, reduceIte, or_true, true_or, Int.reduceToNat, Int.toNat_natCast, tn100, tn200]
      exact q1
/-- the runs once a spell of high days has come -/
theorem runs_in {frm to : Int} {R : Nat} {rf rl : Nat → Int} {κ μ' : Mem} {kept p : Nat} {v3 v4 : Int} (h : runsK frm to R rf rl (κ 12) (κ 13) kept R v3 v4) (hft : frm ≤ to) (q : insR κ kept v3 v4 p μ') : (∀ i, i < kept + 1 → 0 ≤ μ' 12 i ∧ μ' 12 i ≤ μ' 13 i ∧ μ' 13 i ≤ 3000) ∧ (∀ i, i + 1 < kept + 1 → μ' 13 i + 1 < μ' 12 (i + 1)) ∧ ∀ d : Int, (∃ i, i < kept + 1 ∧ μ' 12 i ≤ d ∧ d ≤ μ' 13 i) ↔ ((∃ x, x < R ∧ rf x ≤ d ∧ d ≤ rl x) ∨ (frm ≤ d ∧ d ≤ to)) := by
  obtain ⟨k1, k2, k3, -, -, -, k7⟩ := h
  obtain ⟨p1, p2, p3, -, -, -, p7, ⟨p8, p9⟩, p10⟩ := q
  have lo : ∀ j, j < p → κ 13 j + 1 < v3 := by
    intro j hj
    have hj2 := k1 j (by omega)
    have hle : κ 12 j ≤ v3 := by
      rcases p2 with p2 | p2
      · omega
      · by_cases e : j = p - 1
        · rw [e]; exact p2
        · have := k2 j (p - 1) (by omega) (by omega)
          omega
    omega
  have hi : ∀ j, p ≤ j → j < kept → v4 + 1 < κ 12 j := by
    intro j j1 j2
    have h1 := k1 j j2
    have h2 := p3 j j1 j2
    omega
  refine ⟨fun i hi2 => ?_, fun i hi2 => ?_, fun d => ?_⟩
  · by_cases c : i < p
    · rw [(p7 i c).1, (p7 i c).2]
      have := k1 i (by omega)
      omega
    · by_cases c2 : i = p
      · rw [c2, p8, p9]; omega
      · obtain ⟨j, rfl⟩ : ∃ j, i = j + 1 := ⟨i - 1, by omega⟩
        rw [(p10 j (by omega) (by omega)).1, (p10 j (by omega) (by omega)).2]
        have := k1 j (by omega)
        omega
  · by_cases c : i < p
    · rw [(p7 i c).2]
      by_cases c2 : i + 1 = p
      · rw [c2, p8]
        exact lo i c
      · rw [(p7 (i + 1) (by omega)).1]
        exact k2 i (i + 1) (by omega) (by omega)
    · rw [(p10 i (by omega) (by omega)).1]
      by_cases c2 : i = p
      · rw [c2, p9]
        exact hi p (Nat.le_refl p) (by omega)
      · obtain ⟨j, rfl⟩ : ∃ j, i = j + 1 := ⟨i - 1, by omega⟩
        rw [(p10 j (by omega) (by omega)).2]
        exact k2 j (j + 1) (by omega) (by omega)
  · rw [← k7 d]
    constructor
    · rintro ⟨i, i1, i2⟩
      by_cases c : i < p
      · rw [(p7 i c).1, (p7 i c).2] at i2
        exact Or.inl ⟨i, by omega, i2⟩
      · by_cases c2 : i = p
        · rw [c2, p8, p9] at i2
          exact Or.inr i2
        · obtain ⟨j, rfl⟩ : ∃ j, i = j + 1 := ⟨i - 1, by omega⟩
          rw [(p10 j (by omega) (by omega)).1, (p10 j (by omega) (by omega)).2] at i2
          exact Or.inl ⟨j, by omega, i2⟩
    · rintro (⟨j, j1, j2⟩ | hd)
      · by_cases c : j < p
        · refine ⟨j, by omega, ?_⟩
          rw [(p7 j c).1, (p7 j c).2]
          exact j2
        · refine ⟨j + 1, by omega, ?_⟩
          rw [(p10 j (by omega) (by omega)).1, (p10 j (by omega) (by omega)).2]
          exact j2
      · refine ⟨p, by omega, ?_⟩
        rw [p8, p9]
        exact hd
theorem isOnP_add {n : Nat} {k f t : Nat → Int} {a b c : Int} (kind d : Int) : isOnP ((n : Int) + 1) (upf k n a) (upf f n b) (upf t n c) kind d ↔ isOnP (n : Int) k f t kind d ∨ (a = kind ∧ b ≤ d ∧ d ≤ c) := by
  constructor
  · rintro ⟨i, i1, i2⟩
    by_cases e : i = n
    · subst e
      rw [upf_same, upf_same, upf_same] at i2
      exact Or.inr i2
    · rw [upf_ne e, upf_ne e, upf_ne e] at i2
      exact Or.inl ⟨i, by omega, i2⟩
  · rintro (⟨i, i1, i2⟩ | h)
    · refine ⟨i, by omega, ?_⟩
      rw [upf_ne (show i ≠ n by omega), upf_ne (show i ≠ n by omega), upf_ne (show i ≠ n by omega)]
      exact i2
    · refine ⟨n, by omega, ?_⟩
      rw [upf_same, upf_same, upf_same]
      exact h
theorem Inv2_spell {μ ν μ' ν' : Mem} (h : Inv2 μ ν) (c : ∀ b, b ≠ 1 → ¬ (9 ≤ b ∧ b ≤ 13) → μ' b = μ b) (r : ∀ b, b ≠ 300 → ¬ (308 ≤ b ∧ b ≤ 310) → ν' b = ν b) (r3 : ∀ j, j ≠ 4 → ν' 300 j = ν 300 j) (sp : Ispell (μ' 1 3) (ν' 300 4) (μ' 9) (μ' 10) (μ' 11) (ν' 308) (ν' 309) (ν' 310)) (ru : Iruns (μ' 1 3) (μ' 9) (μ' 10) (μ' 11) (μ' 1 6) (μ' 12) (μ' 13)) : Inv2 μ' ν' := by
  obtain ⟨a1, a2, a3, a4, a5, a6, a7, a8, a9, a10⟩ := h
  unfold Inv2
  have b6 : Isite2 μ' ν' := Isite2_fr a6 (fun a ha => c a (by unfold sC at ha; omega) (by unfold sC at ha; omega)) (fun a ha => r a (by unfold sR at ha; omega) (by unfold sR at ha; omega)) (r3 _ (by decide)) (r3 _ (by decide)) (r3 _ (by decide)) (r3 _ (by decide)) (r3 _ (by decide))
  have b7 : Irefs μ' := Irefs_fr a7 (c _ (by omega) (by omega)) (c _ (by omega) (by omega)) (c _ (by omega) (by omega)) (c _ (by omega) (by omega))
  rw [c 2 (by omega) (by omega), c 14 (by omega) (by omega), c 15 (by omega) (by omega), r3 3 (by omega), r3 15 (by omega), r3 19 (by omega), r3 33 (by omega), r3 45 (by omega), r 306 (by omega) (by omega), r 307 (by omega) (by omega), c 3 (by omega) (by omega), c 16 (by omega) (by omega), r 311 (by omega) (by omega), c 17 (by omega) (by omega), r 312 (by omega) (by omega), c 7 (by omega) (by omega), c 8 (by omega) (by omega), c 32 (by omega) (by omega), c 33 (by omega) (by omega), c 34 (by omega) (by omega), c 35 (by omega) (by omega), r 331 (by omega) (by omega), r 332 (by omega) (by omega), r 333 (by omega) (by omega), r 334 (by omega) (by omega)]
  exact ⟨a1, sp, ru, a4, a5, b6, b7, Iplan2_fr a8 (fun a h1 h2 => c a (by omega) (by omega)) (fun a h1 h2 => r a (by omega) (by omega)), a9, a10⟩
theorem runs_far {R : Nat} {rf rl : Nat → Int} (h1 : ∀ i : Nat, i < R → rf i ≤ rl i) (h2 : ∀ i : Nat, i + 1 < R → rl i + 1 < rf (i + 1)) : ∀ (y x : Nat), x < y → y < R → rl x + 1 < rf y
  | 0, x, h, _ => by omega
  | y + 1, x, h, hy => by
    have a := h2 y (by omega)
    by_cases e : x = y
    · rw [e]; exact a
    · have b := runs_far h1 h2 y x (by omega) (by omega)
      have c := h1 y (by omega)
      omega
set_option maxHeartbeats 4000000 in
theorem s_spell {μ ν : Mem} (h : Inv2 μ ν) (a b c : Int) : Step2 (fun μ => f_X10_spell μ a b c) (fun ν => f_X11_spell ν a b c) μ ν := by
  have hI := h
  obtain ⟨-, hsp, hru, -⟩ := h
  obtain ⟨p1, p2, p3, p4⟩ := hsp
  obtain ⟨u1, u2, u3, u4, u5⟩ := hru
  by_cases hc : μ 1 3 < 40 ∧ 0 ≤ a ∧ a ≤ 2 ∧ 0 ≤ b ∧ b ≤ c ∧ c ≤ 3000
  case neg =>
    refine step2_ro hI (-1) (ex_of ?_) (ex_of ?_)
    · unfold f_X10_spell f_X2_addSpell
      by_cases c1 : 40 ≤ μ 1 3
      · repeat (first | rw [wp_ret] | rw [wp_lm] | rw [wp_bd] | (with_reducible refine wp_t ?_ ?_; focus (first | omega | (simp (disch := omega) only [gaq, stq, up_ne, up_at, upf_same, upf_ne, tn200, tn100, Int.toNat_natCast, Int.reduceToNat]; (try omega); done))) | (with_reducible refine wp_f ?_ ?_; focus (first | omega | (simp (disch := omega) only [gaq, stq, up_ne, up_at, upf_same, upf_ne, tn200, tn100, Int.toNat_natCast, Int.reduceToNat]; (try omega); done))))
        first | exact ⟨rfl, rfl⟩ | exact ⟨trivial, rfl⟩ | exact ⟨trivial, trivial⟩ | exact trivial
      by_cases c2 : a < 0
      · repeat (first | rw [wp_ret] | rw [wp_lm] | rw [wp_bd] | (with_reducible refine wp_t ?_ ?_; focus (first | omega | (simp (disch := omega) only [gaq, stq, up_ne, up_at, upf_same, upf_ne, tn200, tn100, Int.toNat_natCast, Int.reduceToNat]; (try omega); done))) | (with_reducible refine wp_f ?_ ?_; focus (first | omega | (simp (disch := omega) only [gaq, stq, up_ne, up_at, upf_same, upf_ne, tn200, tn100, Int.toNat_natCast, Int.reduceToNat]; (try omega); done))))
        first | exact ⟨rfl, rfl⟩ | exact ⟨trivial, rfl⟩ | exact ⟨trivial, trivial⟩ | exact trivial
      by_cases c3 : a ≤ 2
      · by_cases c4 : 0 ≤ b ∧ b ≤ 3000
        · by_cases c5 : 0 ≤ c ∧ c ≤ 3000
          · repeat (first | rw [wp_ret] | rw [wp_lm] | rw [wp_bd] | (rw [f_isDay_e, wp_ret]; (try simp only [b2i_0, tn200, tn100, Int.toNat_natCast, Int.reduceToNat])) | (with_reducible refine wp_t ?_ ?_; focus (first | omega | (simp (disch := omega) only [b2i_0, gaq, stq, up_ne, up_at, upf_same, upf_ne, tn200, tn100, Int.toNat_natCast, Int.reduceToNat]; (try omega); done))) | (with_reducible refine wp_f ?_ ?_; focus (first | omega | (simp (disch := omega) only [b2i_0, gaq, stq, up_ne, up_at, upf_same, upf_ne, tn200, tn100, Int.toNat_natCast, Int.reduceToNat]; (try omega); done))))
            first | exact ⟨rfl, rfl⟩ | exact ⟨trivial, rfl⟩ | exact ⟨trivial, trivial⟩ | exact trivial
          · repeat (first | rw [wp_ret] | rw [wp_lm] | rw [wp_bd] | (rw [f_isDay_e, wp_ret]; (try simp only [b2i_0, tn200, tn100, Int.toNat_natCast, Int.reduceToNat])) | (with_reducible refine wp_t ?_ ?_; focus (first | omega | (simp (disch := omega) only [b2i_0, gaq, stq, up_ne, up_at, upf_same, upf_ne, tn200, tn100, Int.toNat_natCast, Int.reduceToNat]; (try omega); done))) | (with_reducible refine wp_f ?_ ?_; focus (first | omega | (simp (disch := omega) only [b2i_0, gaq, stq, up_ne, up_at, upf_same, upf_ne, tn200, tn100, Int.toNat_natCast, Int.reduceToNat]; (try omega); done))))
            first | exact ⟨rfl, rfl⟩ | exact ⟨trivial, rfl⟩ | exact ⟨trivial, trivial⟩ | exact trivial
        · repeat (first | rw [wp_ret] | rw [wp_lm] | rw [wp_bd] | (rw [f_isDay_e, wp_ret]; (try simp only [b2i_0, tn200, tn100, Int.toNat_natCast, Int.reduceToNat])) | (with_reducible refine wp_t ?_ ?_; focus (first | omega | (simp (disch := omega) only [b2i_0, gaq, stq, up_ne, up_at, upf_same, upf_ne, tn200, tn100, Int.toNat_natCast, Int.reduceToNat]; (try omega); done))) | (with_reducible refine wp_f ?_ ?_; focus (first | omega | (simp (disch := omega) only [b2i_0, gaq, stq, up_ne, up_at, upf_same, upf_ne, tn200, tn100, Int.toNat_natCast, Int.reduceToNat]; (try omega); done))))
          first | exact ⟨rfl, rfl⟩ | exact ⟨trivial, rfl⟩ | exact ⟨trivial, trivial⟩ | exact trivial
      · repeat (first | rw [wp_ret] | rw [wp_lm] | rw [wp_bd] | (with_reducible refine wp_t ?_ ?_; focus (first | omega | (simp (disch := omega) only [gaq, stq, up_ne, up_at, upf_same, upf_ne, tn200, tn100, Int.toNat_natCast, Int.reduceToNat]; (try omega); done))) | (with_reducible refine wp_f ?_ ?_; focus (first | omega | (simp (disch := omega) only [gaq, stq, up_ne, up_at, upf_same, upf_ne, tn200, tn100, Int.toNat_natCast, Int.reduceToNat]; (try omega); done))))
        first | exact ⟨rfl, rfl⟩ | exact ⟨trivial, rfl⟩ | exact ⟨trivial, trivial⟩ | exact trivial
    · unfold f_X11_spell
      by_cases c1 : ν 300 4 = 40
      · repeat (first | rw [wp_ret] | rw [wp_lm] | rw [wp_bd] | (with_reducible refine wp_t ?_ ?_; focus (first | omega | (simp (disch := omega) only [gaq, stq, up_ne, up_at, upf_same, upf_ne, tn200, tn100, Int.toNat_natCast, Int.reduceToNat]; (try omega); done))) | (with_reducible refine wp_f ?_ ?_; focus (first | omega | (simp (disch := omega) only [gaq, stq, up_ne, up_at, upf_same, upf_ne, tn200, tn100, Int.toNat_natCast, Int.reduceToNat]; (try omega); done))))
        first | exact ⟨rfl, rfl⟩ | exact ⟨trivial, rfl⟩ | exact ⟨trivial, trivial⟩ | exact trivial
      by_cases c2 : 0 ≤ a ∧ a ≤ 2
      · by_cases c4 : 0 ≤ b ∧ b ≤ 3000
        · repeat (first | rw [wp_ret] | rw [wp_lm] | rw [wp_bd] | (rw [f_in_e, wp_ret]; (try simp only [b2i_0, tn200, tn100, Int.toNat_natCast, Int.reduceToNat])) | (with_reducible refine wp_t ?_ ?_; focus (first | omega | (simp (disch := omega) only [b2i_0, gaq, stq, up_ne, up_at, upf_same, upf_ne, tn200, tn100, Int.toNat_natCast, Int.reduceToNat]; (try omega); done))) | (with_reducible refine wp_f ?_ ?_; focus (first | omega | (simp (disch := omega) only [b2i_0, gaq, stq, up_ne, up_at, upf_same, upf_ne, tn200, tn100, Int.toNat_natCast, Int.reduceToNat]; (try omega); done))))
          first | exact ⟨rfl, rfl⟩ | exact ⟨trivial, rfl⟩ | exact ⟨trivial, trivial⟩ | exact trivial
        · repeat (first | rw [wp_ret] | rw [wp_lm] | rw [wp_bd] | (rw [f_in_e, wp_ret]; (try simp only [b2i_0, tn200, tn100, Int.toNat_natCast, Int.reduceToNat])) | (with_reducible refine wp_t ?_ ?_; focus (first | omega | (simp (disch := omega) only [b2i_0, gaq, stq, up_ne, up_at, upf_same, upf_ne, tn200, tn100, Int.toNat_natCast, Int.reduceToNat]; (try omega); done))) | (with_reducible refine wp_f ?_ ?_; focus (first | omega | (simp (disch := omega) only [b2i_0, gaq, stq, up_ne, up_at, upf_same, upf_ne, tn200, tn100, Int.toNat_natCast, Int.reduceToNat]; (try omega); done))))
          first | exact ⟨rfl, rfl⟩ | exact ⟨trivial, rfl⟩ | exact ⟨trivial, trivial⟩ | exact trivial
      · repeat (first | rw [wp_ret] | rw [wp_lm] | rw [wp_bd] | (rw [f_in_e, wp_ret]; (try simp only [b2i_0, tn200, tn100, Int.toNat_natCast, Int.reduceToNat])) | (with_reducible refine wp_t ?_ ?_; focus (first | omega | (simp (disch := omega) only [b2i_0, gaq, stq, up_ne, up_at, upf_same, upf_ne, tn200, tn100, Int.toNat_natCast, Int.reduceToNat]; (try omega); done))) | (with_reducible refine wp_f ?_ ?_; focus (first | omega | (simp (disch := omega) only [b2i_0, gaq, stq, up_ne, up_at, upf_same, upf_ne, tn200, tn100, Int.toNat_natCast, Int.reduceToNat]; (try omega); done))))
        first | exact ⟨rfl, rfl⟩ | exact ⟨trivial, rfl⟩ | exact ⟨trivial, trivial⟩ | exact trivial
  obtain ⟨n, hn⟩ : ∃ n : Nat, μ 1 3 = (n : Int) := ⟨(μ 1 3).toNat, by omega⟩
  have hv : ν 300 4 = (n : Int) := by omega
  obtain ⟨R, hR⟩ : ∃ R : Nat, μ 1 6 = (R : Int) := ⟨(μ 1 6).toNat, by omega⟩
  rw [hn] at u2 u5 p2 p3 p4
  rw [hR] at u2 u3 u4 u5
  have rs : f_X11_spell ν a b c = some ((n : Int) + 1, up (up (up (up ν 308 n a) 309 n b) 310 n c) 300 4 ((n : Int) + 1)) := by
    refine ex_of ?_
    unfold f_X11_spell
    simp only [hv, Int.toNat_natCast]
    repeat (first | rw [wp_ret] | rw [wp_lm] | rw [wp_bd] | (rw [f_in_e, wp_ret]; (try simp only [b2i_0, hv, tn200, tn100, Int.toNat_natCast, Int.reduceToNat])) | (with_reducible refine wp_t ?_ ?_; focus (first | omega | (simp (disch := omega) only [b2i_0, hv, gaq, stq, up_ne, up_at, upf_same, upf_ne, tn200, tn100, Int.toNat_natCast, Int.reduceToNat]; (try omega); done))) | (with_reducible refine wp_f ?_ ?_; focus (first | omega | (simp (disch := omega) only [b2i_0, hv, gaq, stq, up_ne, up_at, upf_same, upf_ne, tn200, tn100, Int.toNat_natCast, Int.reduceToNat]; (try omega); done))))
    simp (disch := omega) only [hv, bd_some, lm_e, if_pos, if_neg, up_ne, up_at, upf_same, upf_ne, reduceIte, or_true, true_or, Int.reduceToNat, Int.toNat_natCast, tn100, tn200]
    first | exact ⟨rfl, rfl⟩ | exact ⟨trivial, rfl⟩ | exact ⟨trivial, trivial⟩ | exact trivial
  have sp : ∀ (m : Mem), m 1 3 = (n : Int) + 1 → m 9 = upf (μ 9) n a → m 10 = upf (μ 10) n b → m 11 = upf (μ 11) n c → Ispell (m 1 3) ((n : Int) + 1) (m 9) (m 10) (m 11) (upf (ν 308) n a) (upf (ν 309) n b) (upf (ν 310) n c) := by
    intro m e1 e2 e3 e4
    rw [e1, e2, e3, e4]
    refine ⟨rfl, by omega, by omega, fun i hi => ?_⟩
    by_cases e : i = n
    · subst e
      rw [upf_same, upf_same, upf_same, upf_same, upf_same, upf_same]
      exact ⟨rfl, rfl, rfl, by omega, by omega, by omega⟩
    · rw [upf_ne e, upf_ne e, upf_ne e, upf_ne e, upf_ne e, upf_ne e]
      exact p4 i (by omega)
  by_cases ha : a = 0
  · -- high days
    subst ha
    let μ0 : Mem := up (up (up (up μ 9 n 0) 10 n b) 11 n c) 1 3 ((n : Int) + 1)
    have hμ0 : μ0 = up (up (up (up μ 9 n 0) 10 n b) 11 n c) 1 3 ((n : Int) + 1) := rfl
    have hS := runs_far (R := R) (rf := μ 12) (rl := μ 13) (fun i hi => (u3 i (by omega)).2.1) (fun i hi => u4 i (by omega))
    obtain ⟨κ, k', w3, w4, e1, e2, e3, e4⟩ := e_addRun_11 (frm := b) (to := c) (R := R) (rf := μ 12) (rl := μ 13) ⟨hc.2.2.2.1, hc.2.2.2.2.1, hc.2.2.2.2.2⟩ (by omega) (fun x hx => u3 x (by omega)) (fun x y hxy hy => hS y x hxy hy) R 64 0 0 μ0 b c (by omega) (by omega) (by omega) (fun j _ _ => by rw [hμ0]; simp (disch := omega) only [bd_some, lm_e, if_pos, if_neg, up_ne, up_at, upf_same, upf_ne, reduceIte, or_true, true_or, Int.reduceToNat, Int.toNat_natCast, tn100, tn200]; exact ⟨trivial, trivial⟩) (by rw [hμ0]; simp (disch := omega) only [bd_some, lm_e, if_pos, if_neg, up_ne, up_at, upf_same, upf_ne, reduceIte, or_true, true_or, Int.reduceToNat, Int.toNat_natCast, tn100, tn200]; exact hR) (runsK_0 hc.2.2.2.1 hc.2.2.2.2.2)
    obtain ⟨p, μ', f1, f2⟩ := e_addRun_124 (κ := κ) (kept := k') (v3 := w3) (v4 := w4) (by omega) k' 64 κ (Nat.le_refl k') (by omega) (fun _ _ _ => rfl) (fun _ _ => ⟨rfl, rfl⟩) (fun j j1 j2 => by omega)
    obtain ⟨r1, r2, r3⟩ := runs_in e4 hc.2.2.2.2.1 f2
    obtain ⟨-, -, -, g4, g5, g6, -⟩ := f2
    have cfr : ∀ b, b ≠ 1 → b ≠ 12 → b ≠ 13 → μ' b = μ0 b := fun b b1 b2 b3 => (g4 b b2 b3 b1).trans (e2 b b2 b3)
    have q3 : μ' 1 3 = (n : Int) + 1 := by
      rw [g5 3 (by decide), e2 1 (by decide) (by decide), hμ0]
      simp (disch := omega) only [bd_some, lm_e, if_pos, if_neg, up_ne, up_at, upf_same, upf_ne, reduceIte, or_true, true_or, Int.reduceToNat, Int.toNat_natCast, tn100, tn200]
    have q9 : μ' 9 = upf (μ 9) n 0 := by rw [cfr 9 (by decide) (by decide) (by decide), hμ0]; simp (disch := omega) only [bd_some, lm_e, if_pos, if_neg, up_ne, up_at, upf_same, upf_ne, reduceIte, or_true, true_or, Int.reduceToNat, Int.toNat_natCast, tn100, tn200]
    have q10 : μ' 10 = upf (μ 10) n b := by rw [cfr 10 (by decide) (by decide) (by decide), hμ0]; simp (disch := omega) only [bd_some, lm_e, if_pos, if_neg, up_ne, up_at, upf_same, upf_ne, reduceIte, or_true, true_or, Int.reduceToNat, Int.toNat_natCast, tn100, tn200]
    have q11 : μ' 11 = upf (μ 11) n c := by rw [cfr 11 (by decide) (by decide) (by decide), hμ0]; simp (disch := omega) only [bd_some, lm_e, if_pos, if_neg, up_ne, up_at, upf_same, upf_ne, reduceIte, or_true, true_or, Int.reduceToNat, Int.toNat_natCast, tn100, tn200]
    have cs : f_X10_spell μ 0 b c = some ((n : Int) + 1, μ') := by
      refine ex_of ?_
      unfold f_X10_spell f_X2_addSpell
      have ea : f_X2_addRun μ0 b c = some (0, μ') := by
        show f_X2_addRun_11 64 b c b c 0 0 μ0 = _
        exact e1.trans f1
      simp only [hn, Int.toNat_natCast]
      repeat (first | rw [wp_ret] | rw [wp_lm] | rw [wp_bd] | (rw [f_isDay_e, wp_ret]; (try simp only [b2i_0, hn, tn200, tn100, Int.toNat_natCast, Int.reduceToNat])) | (with_reducible refine wp_t ?_ ?_; focus (first | omega | (simp (disch := omega) only [b2i_0, hn, gaq, stq, up_ne, up_at, upf_same, upf_ne, tn200, tn100, Int.toNat_natCast, Int.reduceToNat]; (try omega); done))) | (with_reducible refine wp_f ?_ ?_; focus (first | omega | (simp (disch := omega) only [b2i_0, hn, gaq, stq, up_ne, up_at, upf_same, upf_ne, tn200, tn100, Int.toNat_natCast, Int.reduceToNat]; (try omega); done))))
      simp (disch := omega) only [up_ne, up_at, upf_same, upf_ne, hn, Int.toNat_natCast]
      rw [← hμ0, ea, wp_ret, wp_ret, wp_ret]
      exact ⟨q3, rfl⟩
    refine step2_do ((n : Int) + 1) cs rs (fun b hb => ?_) ?_ (fun b hb => by simp (disch := omega) only [bd_some, lm_e, if_pos, if_neg, up_ne, up_at, upf_same, upf_ne, reduceIte, or_true, true_or, Int.reduceToNat, Int.toNat_natCast, tn100, tn200]) ?_
    · rw [cfr b (by omega) (by omega) (by omega), hμ0]; simp (disch := omega) only [bd_some, lm_e, if_pos, if_neg, up_ne, up_at, upf_same, upf_ne, reduceIte, or_true, true_or, Int.reduceToNat, Int.toNat_natCast, tn100, tn200]
    · rw [cfr 90 (by omega) (by omega) (by omega), hμ0]; simp (disch := omega) only [bd_some, lm_e, if_pos, if_neg, up_ne, up_at, upf_same, upf_ne, reduceIte, or_true, true_or, Int.reduceToNat, Int.toNat_natCast, tn100, tn200]
    · refine Inv2_spell hI (fun b b1 b2 => ?_) (fun b b1 b2 => by simp (disch := omega) only [bd_some, lm_e, if_pos, if_neg, up_ne, up_at, upf_same, upf_ne, reduceIte, or_true, true_or, Int.reduceToNat, Int.toNat_natCast, tn100, tn200]) (fun j hj => by simp (disch := omega) only [bd_some, lm_e, if_pos, if_neg, up_ne, up_at, upf_same, upf_ne, reduceIte, or_true, true_or, Int.reduceToNat, Int.toNat_natCast, tn100, tn200]) ?_ ?_
      · rw [cfr b (by omega) (by omega) (by omega), hμ0]; simp (disch := omega) only [bd_some, lm_e, if_pos, if_neg, up_ne, up_at, upf_same, upf_ne, reduceIte, or_true, true_or, Int.reduceToNat, Int.toNat_natCast, tn100, tn200]
      · simp (disch := omega) only [bd_some, lm_e, if_pos, if_neg, up_ne, up_at, upf_same, upf_ne, reduceIte, or_true, true_or, Int.reduceToNat, Int.toNat_natCast, tn100, tn200]
        exact sp μ' q3 q9 q10 q11
      · rw [q3, q9, q10, q11, g6]
        refine ⟨by omega, by omega, fun i hi => r1 i (by omega), fun i hi => r2 i (by omega), fun d => ?_⟩
        rw [isOnP_add, ← u5 d]
        have := r3 d
        constructor
        · rintro ⟨i, i1, i2⟩
          rcases this.mp ⟨i, by omega, i2⟩ with ⟨x, x1, x2⟩ | x2
          · exact Or.inl ⟨x, by omega, x2⟩
          · exact Or.inr ⟨rfl, x2⟩
        · rintro (⟨x, x1, x2⟩ | ⟨-, x2⟩)
          · obtain ⟨i, i1, i2⟩ := this.mpr (Or.inl ⟨x, by omega, x2⟩)
            exact ⟨i, by omega, i2⟩
          · obtain ⟨i, i1, i2⟩ := this.mpr (Or.inr x2)
            exact ⟨i, by omega, i2⟩
  · have cs : f_X10_spell μ a b c = some ((n : Int) + 1, up (up (up (up μ 9 n a) 10 n b) 11 n c) 1 3 ((n : Int) + 1)) := by
      refine ex_of ?_
      unfold f_X10_spell f_X2_addSpell
      simp only [hn, Int.toNat_natCast]
      repeat (first | rw [wp_ret] | rw [wp_lm] | rw [wp_bd] | (rw [f_isDay_e, wp_ret]; (try simp only [b2i_0, hn, tn200, tn100, Int.toNat_natCast, Int.reduceToNat])) | (with_reducible refine wp_t ?_ ?_; focus (first | omega | (simp (disch := omega) only [b2i_0, hn, gaq, stq, up_ne, up_at, upf_same, upf_ne, tn200, tn100, Int.toNat_natCast, Int.reduceToNat]; (try omega); done))) | (with_reducible refine wp_f ?_ ?_; focus (first | omega | (simp (disch := omega) only [b2i_0, hn, gaq, stq, up_ne, up_at, upf_same, upf_ne, tn200, tn100, Int.toNat_natCast, Int.reduceToNat]; (try omega); done))))
      simp (disch := omega) only [hn, bd_some, lm_e, if_pos, if_neg, up_ne, up_at, upf_same, upf_ne, reduceIte, or_true, true_or, Int.reduceToNat, Int.toNat_natCast, tn100, tn200]
      first | exact ⟨rfl, rfl⟩ | exact ⟨trivial, rfl⟩ | exact ⟨trivial, trivial⟩ | exact trivial
    refine step2_do ((n : Int) + 1) cs rs (fun b hb => by simp (disch := omega) only [bd_some, lm_e, if_pos, if_neg, up_ne, up_at, upf_same, upf_ne, reduceIte, or_true, true_or, Int.reduceToNat, Int.toNat_natCast, tn100, tn200]) (by simp (disch := omega) only [bd_some, lm_e, if_pos, if_neg, up_ne, up_at, upf_same, upf_ne, reduceIte, or_true, true_or, Int.reduceToNat, Int.toNat_natCast, tn100, tn200]) (fun b hb => by simp (disch := omega) only [bd_some, lm_e, if_pos, if_neg, up_ne, up_at, upf_same, upf_ne, reduceIte, or_true, true_or, Int.reduceToNat, Int.toNat_natCast, tn100, tn200]) ?_
    refine Inv2_spell hI (fun b b1 b2 => by simp (disch := omega) only [bd_some, lm_e, if_pos, if_neg, up_ne, up_at, upf_same, upf_ne, reduceIte, or_true, true_or, Int.reduceToNat, Int.toNat_natCast, tn100, tn200]) (fun b b1 b2 => by simp (disch := omega) only [bd_some, lm_e, if_pos, if_neg, up_ne, up_at, upf_same, upf_ne, reduceIte, or_true, true_or, Int.reduceToNat, Int.toNat_natCast, tn100, tn200]) (fun j hj => by simp (disch := omega) only [bd_some, lm_e, if_pos, if_neg, up_ne, up_at, upf_same, upf_ne, reduceIte, or_true, true_or, Int.reduceToNat, Int.toNat_natCast, tn100, tn200]) ?_ ?_
    · have q := sp (up (up (up (up μ 9 n a) 10 n b) 11 n c) 1 3 ((n : Int) + 1)) (by simp (disch := omega) only [bd_some, lm_e, if_pos, if_neg, up_ne, up_at, upf_same, upf_ne, reduceIte, or_true, true_or, Int.reduceToNat, Int.toNat_natCast, tn100, tn200]) (by simp (disch := omega) only [bd_some, lm_e, if_pos, if_neg, up_ne, up_at, upf_same, upf_ne, reduceIte, or_true, true_or, Int.reduceToNat, Int.toNat_natCast, tn100, tn200]) (by simp (disch := omega) only [bd_some, lm_e, if_pos, if_neg, up_ne, up_at, upf_same, upf_ne, reduceIte, or_true, true_or, Int.reduceToNat, Int.toNat_natCast, tn100, tn200]) (by simp (disch := omega) only [bd_some, lm_e, if_pos, if_neg, up_ne, up_at, upf_same, upf_ne, reduceIte, or_true, true_or, Int.reduceToNat, Int.toNat_natCast, tn100, tn200])
      simp (disch := omega) only [bd_some, lm_e, if_pos, if_neg, up_ne, up_at, upf_same, upf_ne, reduceIte, or_true, true_or, Int.reduceToNat, Int.toNat_natCast, tn100, tn200]
      simp (disch := omega) only [bd_some, lm_e, if_pos, if_neg, up_ne, up_at, upf_same, upf_ne, reduceIte, or_true, true_or, Int.reduceToNat, Int.toNat_natCast, tn100, tn200] at q
      exact q
    · simp (disch := omega) only [bd_some, lm_e, if_pos, if_neg, up_ne, up_at, upf_same, upf_ne, reduceIte, or_true, true_or, Int.reduceToNat, Int.toNat_natCast, tn100, tn200]
      rw [hR]
      refine ⟨by omega, by omega, fun i hi => u3 i hi, fun i hi => u4 i hi, fun d => ?_⟩
      rw [isOnP_add, u5 d]
      constructor
      · exact Or.inl
      · rintro (h | ⟨h, -⟩)
        · exact h
        · exact absurd h ha
