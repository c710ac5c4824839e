/-! THE SITE while a day goes on: the day's number may be another one in the kept -/
theorem up_id {μ : Mem} {o k : Nat} : up μ o k (μ o k) = μ := by
  funext a j
  by_cases h : a = o
  · subst h
    rw [up_at]
    by_cases h2 : j = k
    · rw [h2, upf_same]
    · rw [upf_ne h2]
  · rw [up_ne h]
def sN (N : Int) (μ ν : Mem) : Prop := Isite2 (up μ 6 9 N) (up ν 300 1 N)
theorem sN_of {μ ν : Mem} (h : Isite2 μ ν) : sN (μ 6 9) μ ν := by
  have n0 := h.1
  unfold Inum2 at n0
  unfold sN
  rw [up_id, ← n0.1, up_id]
  exact h
theorem sN_to {N : Int} {μ ν : Mem} (h : sN N μ ν) (h1 : μ 6 9 = N) (h2 : ν 300 1 = N) : Isite2 μ ν := by
  unfold sN at h
  have e1 : up μ 6 9 N = μ := by rw [← h1]; exact up_id
  have e2 : up ν 300 1 N = ν := by rw [← h2]; exact up_id
  rw [e1, e2] at h
  exact h
theorem sN_n {N : Int} {μ ν : Mem} (h : sN N μ ν) : ν 300 2 = μ 6 5 ∧ 0 ≤ μ 6 5 ∧ μ 6 5 ≤ 6 ∧ μ 90 1 = μ 6 5 ∧ ν 300 26 = μ 6 6 ∧ 0 ≤ μ 6 6 ∧ μ 6 6 ≤ 30 ∧ μ 90 0 = μ 6 6 ∧ ν 300 17 = μ 6 8 ∧ 0 ≤ μ 6 8 ∧ μ 6 8 ≤ 10 ∧ ν 300 16 = μ 6 10 ∧ 0 ≤ μ 6 10 ∧ μ 6 10 ≤ N ∧ 0 ≤ N ∧ N ≤ 3001 := by
  have n0 := h.1
  unfold Inum2 at n0
  simp (disch := omega) only [bd_some, lm_e, if_pos, if_neg, up_ne, up_at, upf_same, upf_ne, reduceIte, or_true, true_or, Int.reduceToNat, Int.toNat_natCast, tn100, tn200] at n0
  omega
theorem sN_g {N : Int} {μ ν : Mem} (h : sN N μ ν) (g : Nat) (hg : (g : Int) < μ 6 5) : μ 19 g = 200 + (g : Int) ∧ μ (200 + g) 0 = ν 301 g ∧ μ (200 + g) 1 = ν 302 g ∧ μ (200 + g) 2 = ν 303 g ∧ μ (200 + g) 3 = ν 304 g ∧ μ (200 + g) 4 = ν 305 g ∧
    1 ≤ ν 301 g ∧ ν 301 g ≤ 200 ∧ -1 ≤ ν 302 g ∧ (ν 302 g < μ 6 6 ∨ ν 302 g = 30) ∧ 0 ≤ ν 303 g ∧ ν 303 g ≤ 10000 ∧ 0 ≤ ν 304 g ∧ ν 304 g ≤ N ∧ 0 ≤ ν 305 g ∧ ν 305 g ≤ N := by
  have q := h.2.2.1.1 g (by simp (disch := omega) only [bd_some, lm_e, if_pos, if_neg, up_ne, up_at, upf_same, upf_ne, reduceIte, or_true, true_or, Int.reduceToNat, Int.toNat_natCast, tn100, tn200]; exact hg)
  simp (disch := omega) only [bd_some, lm_e, if_pos, if_neg, up_ne, up_at, upf_same, upf_ne, reduceIte, or_true, true_or, Int.reduceToNat, Int.toNat_natCast, tn100, tn200] at q
  exact q
theorem sN_s {N : Int} {μ ν : Mem} (h : sN N μ ν) (k : Nat) (hk : (k : Int) < μ 6 6) : μ 20 k = 100 + (k : Int) ∧ μ (100 + k) 0 = ν 315 k ∧ μ (100 + k) 1 = ν 316 k ∧ μ (100 + k) 2 = ν 317 k ∧ μ (100 + k) 4 = ν 318 k ∧ μ (100 + k) 5 = ν 319 k ∧
    1 ≤ ν 315 k ∧ ν 315 k ≤ 99 ∧ 0 ≤ ν 316 k ∧ ν 316 k ≤ 9 ∧ 0 ≤ ν 317 k ∧ ν 317 k ≤ 6 ∧ (ν 317 k ≠ 5 → ν 318 k = -1) ∧ -1 ≤ μ (100 + k) 3 ∧ μ (100 + k) 3 < μ 6 5 := by
  have q := h.2.2.2.1.1 k (by simp (disch := omega) only [bd_some, lm_e, if_pos, if_neg, up_ne, up_at, upf_same, upf_ne, reduceIte, or_true, true_or, Int.reduceToNat, Int.toNat_natCast, tn100, tn200]; exact hk)
  simp (disch := omega) only [bd_some, lm_e, if_pos, if_neg, up_ne, up_at, upf_same, upf_ne, reduceIte, or_true, true_or, Int.reduceToNat, Int.toNat_natCast, tn100, tn200] at q
  exact q
theorem sN_w {N : Int} {μ ν : Mem} (h : sN N μ ν) : Iwork2 (μ 6 6) (μ 6 5) (μ 6 8) μ ν := by
  have q := h.2.2.2.2
  unfold Iwork2 at q ⊢
  simp (disch := omega) only [bd_some, lm_e, if_pos, if_neg, up_ne, up_at, upf_same, upf_ne, reduceIte, or_true, true_or, Int.reduceToNat, Int.toNat_natCast, tn100, tn200] at q
  exact q
theorem sN_m {N : Int} {μ ν : Mem} (h : sN N μ ν) : μ 6 7 = sumTo (ν 301) (μ 6 5).toNat := by
  have q := h.2.1
  simp (disch := omega) only [bd_some, lm_e, if_pos, if_neg, up_ne, up_at, upf_same, upf_ne, reduceIte, or_true, true_or, Int.reduceToNat, Int.toNat_natCast, tn100, tn200] at q
  exact q
theorem sN_gang {N : Int} {μ ν μ' ν' : Mem} (h : sN N μ ν) (g : Nat) (hg : (g : Int) < μ 6 5) (hc : ∀ a, sC a → a ≠ 200 + g → μ' a = μ a) (hr : ∀ a, sR a → a ≠ 303 → a ≠ 305 → ν' a = ν a) (h3 : ∀ j, j ≠ g → ν' 303 j = ν 303 j) (h5 : ∀ j, j ≠ g → ν' 305 j = ν 305 j) (h300 : ν' 300 = ν 300)
    (m0 : μ' (200 + g) 0 = μ (200 + g) 0) (m1 : μ' (200 + g) 1 = μ (200 + g) 1) (m2 : μ' (200 + g) 2 = ν' 303 g) (m3 : μ' (200 + g) 3 = μ (200 + g) 3) (m4 : μ' (200 + g) 4 = ν' 305 g) (b1 : 0 ≤ ν' 303 g) (b2 : ν' 303 g ≤ 10000) (b3 : 0 ≤ ν' 305 g) (b4 : ν' 305 g ≤ N) : sN N μ' ν' := by
  have c6 := hc 6 (by unfold sC; omega) (by omega)
  unfold sN
  refine Isite2_gang h g (by simp (disch := omega) only [bd_some, lm_e, if_pos, if_neg, up_ne, up_at, upf_same, upf_ne, reduceIte, or_true, true_or, Int.reduceToNat, Int.toNat_natCast, tn100, tn200]; exact hg) (fun a h1 h2 => ?_) (fun a h1 h2 h3 => ?_) (fun j hj => ?_) (fun j hj => ?_) ?_ ?_ ?_ ?_ ?_ ?_ ?_ ?_ ?_ ?_
  · by_cases e : a = 6
    · subst e; rw [up_at, up_at, c6]
    · rw [up_ne e, up_ne e]; exact hc a h1 h2
  · unfold sR at h1
    simp (disch := omega) only [bd_some, lm_e, if_pos, if_neg, up_ne, up_at, upf_same, upf_ne, reduceIte, or_true, true_or, Int.reduceToNat, Int.toNat_natCast, tn100, tn200]
    exact hr a (by unfold sR; omega) h2 h3
  · simp (disch := omega) only [bd_some, lm_e, if_pos, if_neg, up_ne, up_at, upf_same, upf_ne, reduceIte, or_true, true_or, Int.reduceToNat, Int.toNat_natCast, tn100, tn200]; exact h3 j hj
  · simp (disch := omega) only [bd_some, lm_e, if_pos, if_neg, up_ne, up_at, upf_same, upf_ne, reduceIte, or_true, true_or, Int.reduceToNat, Int.toNat_natCast, tn100, tn200]; exact h5 j hj
  · rw [up_at, up_at, h300]
  · simp (disch := omega) only [bd_some, lm_e, if_pos, if_neg, up_ne, up_at, upf_same, upf_ne, reduceIte, or_true, true_or, Int.reduceToNat, Int.toNat_natCast, tn100, tn200]; exact m0
  · simp (disch := omega) only [bd_some, lm_e, if_pos, if_neg, up_ne, up_at, upf_same, upf_ne, reduceIte, or_true, true_or, Int.reduceToNat, Int.toNat_natCast, tn100, tn200]; exact m1
  · simp (disch := omega) only [bd_some, lm_e, if_pos, if_neg, up_ne, up_at, upf_same, upf_ne, reduceIte, or_true, true_or, Int.reduceToNat, Int.toNat_natCast, tn100, tn200]; exact m2
  · simp (disch := omega) only [bd_some, lm_e, if_pos, if_neg, up_ne, up_at, upf_same, upf_ne, reduceIte, or_true, true_or, Int.reduceToNat, Int.toNat_natCast, tn100, tn200]; exact m3
  · simp (disch := omega) only [bd_some, lm_e, if_pos, if_neg, up_ne, up_at, upf_same, upf_ne, reduceIte, or_true, true_or, Int.reduceToNat, Int.toNat_natCast, tn100, tn200]; exact m4
  · simp (disch := omega) only [bd_some, lm_e, if_pos, if_neg, up_ne, up_at, upf_same, upf_ne, reduceIte, or_true, true_or, Int.reduceToNat, Int.toNat_natCast, tn100, tn200]; exact b1
  · simp (disch := omega) only [bd_some, lm_e, if_pos, if_neg, up_ne, up_at, upf_same, upf_ne, reduceIte, or_true, true_or, Int.reduceToNat, Int.toNat_natCast, tn100, tn200]; exact b2
  · simp (disch := omega) only [bd_some, lm_e, if_pos, if_neg, up_ne, up_at, upf_same, upf_ne, reduceIte, or_true, true_or, Int.reduceToNat, Int.toNat_natCast, tn100, tn200]; exact b3
  · simp (disch := omega) only [bd_some, lm_e, if_pos, if_neg, up_ne, up_at, upf_same, upf_ne, reduceIte, or_true, true_or, Int.reduceToNat, Int.toNat_natCast, tn100, tn200]; exact b4
theorem sN_leave {N : Int} {μ ν μ' ν' : Mem} (h : sN N μ ν) (g : Nat) (hg : (g : Int) < μ 6 5) (k : Nat) (hk : (k : Int) < μ 6 6) (at_ : ν 302 g = (k : Int)) (hc : ∀ a, sC a → a ≠ 200 + g → a ≠ 100 + k → μ' a = μ a) (hr : ∀ a, sR a → a ≠ 302 → a ≠ 303 → a ≠ 304 → a ≠ 317 → a ≠ 318 → a ≠ 319 → ν' a = ν a) (h2 : ∀ j, j ≠ g → ν' 302 j = ν 302 j) (h3 : ∀ j, j ≠ g → ν' 303 j = ν 303 j) (h4 : ∀ j, j ≠ g → ν' 304 j = ν 304 j) (t7 : ∀ j, j ≠ k → ν' 317 j = ν 317 j) (t8 : ∀ j, j ≠ k → ν' 318 j = ν 318 j) (t9 : ∀ j, j ≠ k → ν' 319 j = ν 319 j) (h300 : ν' 300 = ν 300)
    (m0 : μ' (200 + g) 0 = μ (200 + g) 0) (m1 : μ' (200 + g) 1 = -1) (v1 : ν' 302 g = -1) (m2 : μ' (200 + g) 2 = 0) (v2 : ν' 303 g = 0) (m3 : μ' (200 + g) 3 = ν' 304 g) (m4 : μ' (200 + g) 4 = μ (200 + g) 4) (l0 : 0 ≤ ν' 304 g) (l1 : ν' 304 g ≤ N)
    (k3 : μ' (100 + k) 3 = -1) (k0 : μ' (100 + k) 0 = μ (100 + k) 0) (k1 : μ' (100 + k) 1 = μ (100 + k) 1) (k2 : μ' (100 + k) 2 = ν' 317 k) (k4 : μ' (100 + k) 4 = ν' 318 k) (k5 : μ' (100 + k) 5 = ν' 319 k) (b0 : 0 ≤ ν' 317 k) (b1 : ν' 317 k ≤ 6) (b2 : ν' 317 k ≠ 5 → ν' 318 k = -1) : sN N μ' ν' := by
  have c6 := hc 6 (by unfold sC; omega) (by omega) (by omega)
  unfold sN
  refine Isite2_leave h g (by simp (disch := omega) only [bd_some, lm_e, if_pos, if_neg, up_ne, up_at, upf_same, upf_ne, reduceIte, or_true, true_or, Int.reduceToNat, Int.toNat_natCast, tn100, tn200]; exact hg) k (by simp (disch := omega) only [bd_some, lm_e, if_pos, if_neg, up_ne, up_at, upf_same, upf_ne, reduceIte, or_true, true_or, Int.reduceToNat, Int.toNat_natCast, tn100, tn200]; exact hk) (by simp (disch := omega) only [bd_some, lm_e, if_pos, if_neg, up_ne, up_at, upf_same, upf_ne, reduceIte, or_true, true_or, Int.reduceToNat, Int.toNat_natCast, tn100, tn200]; exact at_) (fun a q1 q2 q3 => ?_) (fun a q1 q2 q3 q4 q5 q6 q7 => ?_) (fun j hj => ?_) (fun j hj => ?_) (fun j hj => ?_) (fun j hj => ?_) (fun j hj => ?_) (fun j hj => ?_) ?_ ?_ ?_ ?_ ?_ ?_ ?_ ?_ ?_ ?_ ?_ ?_ ?_ ?_ ?_ ?_ ?_ ?_ ?_
  · by_cases e : a = 6
    · subst e; rw [up_at, up_at, c6]
    · rw [up_ne e, up_ne e]; exact hc a q1 q2 q3
  · unfold sR at q1
    simp (disch := omega) only [bd_some, lm_e, if_pos, if_neg, up_ne, up_at, upf_same, upf_ne, reduceIte, or_true, true_or, Int.reduceToNat, Int.toNat_natCast, tn100, tn200]
    exact hr a (by unfold sR; omega) q2 q3 q4 q5 q6 q7
  · simp (disch := omega) only [bd_some, lm_e, if_pos, if_neg, up_ne, up_at, upf_same, upf_ne, reduceIte, or_true, true_or, Int.reduceToNat, Int.toNat_natCast, tn100, tn200]; exact h2 j hj
  · simp (disch := omega) only [bd_some, lm_e, if_pos, if_neg, up_ne, up_at, upf_same, upf_ne, reduceIte, or_true, true_or, Int.reduceToNat, Int.toNat_natCast, tn100, tn200]; exact h3 j hj
  · simp (disch := omega) only [bd_some, lm_e, if_pos, if_neg, up_ne, up_at, upf_same, upf_ne, reduceIte, or_true, true_or, Int.reduceToNat, Int.toNat_natCast, tn100, tn200]; exact h4 j hj
  · simp (disch := omega) only [bd_some, lm_e, if_pos, if_neg, up_ne, up_at, upf_same, upf_ne, reduceIte, or_true, true_or, Int.reduceToNat, Int.toNat_natCast, tn100, tn200]; exact t7 j hj
  · simp (disch := omega) only [bd_some, lm_e, if_pos, if_neg, up_ne, up_at, upf_same, upf_ne, reduceIte, or_true, true_or, Int.reduceToNat, Int.toNat_natCast, tn100, tn200]; exact t8 j hj
  · simp (disch := omega) only [bd_some, lm_e, if_pos, if_neg, up_ne, up_at, upf_same, upf_ne, reduceIte, or_true, true_or, Int.reduceToNat, Int.toNat_natCast, tn100, tn200]; exact t9 j hj
  · rw [up_at, up_at, h300]
  · simp (disch := omega) only [bd_some, lm_e, if_pos, if_neg, up_ne, up_at, upf_same, upf_ne, reduceIte, or_true, true_or, Int.reduceToNat, Int.toNat_natCast, tn100, tn200]; exact m0
  · simp (disch := omega) only [bd_some, lm_e, if_pos, if_neg, up_ne, up_at, upf_same, upf_ne, reduceIte, or_true, true_or, Int.reduceToNat, Int.toNat_natCast, tn100, tn200]; exact m1
  · simp (disch := omega) only [bd_some, lm_e, if_pos, if_neg, up_ne, up_at, upf_same, upf_ne, reduceIte, or_true, true_or, Int.reduceToNat, Int.toNat_natCast, tn100, tn200]; exact v1
  · simp (disch := omega) only [bd_some, lm_e, if_pos, if_neg, up_ne, up_at, upf_same, upf_ne, reduceIte, or_true, true_or, Int.reduceToNat, Int.toNat_natCast, tn100, tn200]; exact m2
  · simp (disch := omega) only [bd_some, lm_e, if_pos, if_neg, up_ne, up_at, upf_same, upf_ne, reduceIte, or_true, true_or, Int.reduceToNat, Int.toNat_natCast, tn100, tn200]; exact v2
  · simp (disch := omega) only [bd_some, lm_e, if_pos, if_neg, up_ne, up_at, upf_same, upf_ne, reduceIte, or_true, true_or, Int.reduceToNat, Int.toNat_natCast, tn100, tn200]; exact m3
  · simp (disch := omega) only [bd_some, lm_e, if_pos, if_neg, up_ne, up_at, upf_same, upf_ne, reduceIte, or_true, true_or, Int.reduceToNat, Int.toNat_natCast, tn100, tn200]; exact m4
  · simp (disch := omega) only [bd_some, lm_e, if_pos, if_neg, up_ne, up_at, upf_same, upf_ne, reduceIte, or_true, true_or, Int.reduceToNat, Int.toNat_natCast, tn100, tn200]; exact l0
  · simp (disch := omega) only [bd_some, lm_e, if_pos, if_neg, up_ne, up_at, upf_same, upf_ne, reduceIte, or_true, true_or, Int.reduceToNat, Int.toNat_natCast, tn100, tn200]; exact l1
  · simp (disch := omega) only [bd_some, lm_e, if_pos, if_neg, up_ne, up_at, upf_same, upf_ne, reduceIte, or_true, true_or, Int.reduceToNat, Int.toNat_natCast, tn100, tn200]; exact k3
  · simp (disch := omega) only [bd_some, lm_e, if_pos, if_neg, up_ne, up_at, upf_same, upf_ne, reduceIte, or_true, true_or, Int.reduceToNat, Int.toNat_natCast, tn100, tn200]; exact k0
  · simp (disch := omega) only [bd_some, lm_e, if_pos, if_neg, up_ne, up_at, upf_same, upf_ne, reduceIte, or_true, true_or, Int.reduceToNat, Int.toNat_natCast, tn100, tn200]; exact k1
  · simp (disch := omega) only [bd_some, lm_e, if_pos, if_neg, up_ne, up_at, upf_same, upf_ne, reduceIte, or_true, true_or, Int.reduceToNat, Int.toNat_natCast, tn100, tn200]; exact k2
  · simp (disch := omega) only [bd_some, lm_e, if_pos, if_neg, up_ne, up_at, upf_same, upf_ne, reduceIte, or_true, true_or, Int.reduceToNat, Int.toNat_natCast, tn100, tn200]; exact k4
  · simp (disch := omega) only [bd_some, lm_e, if_pos, if_neg, up_ne, up_at, upf_same, upf_ne, reduceIte, or_true, true_or, Int.reduceToNat, Int.toNat_natCast, tn100, tn200]; exact k5
  · simp (disch := omega) only [bd_some, lm_e, if_pos, if_neg, up_ne, up_at, upf_same, upf_ne, reduceIte, or_true, true_or, Int.reduceToNat, Int.toNat_natCast, tn100, tn200]; exact b0
  · simp (disch := omega) only [bd_some, lm_e, if_pos, if_neg, up_ne, up_at, upf_same, upf_ne, reduceIte, or_true, true_or, Int.reduceToNat, Int.toNat_natCast, tn100, tn200]; exact b1
  · simp (disch := omega) only [bd_some, lm_e, if_pos, if_neg, up_ne, up_at, upf_same, upf_ne, reduceIte, or_true, true_or, Int.reduceToNat, Int.toNat_natCast, tn100, tn200]; exact b2
theorem sN_ramp {N : Int} {μ ν μ' ν' : Mem} (h : sN N μ ν) (g : Nat) (hg : (g : Int) < μ 6 5) (hi : Int) (hw : ν 302 g = 30) (hh : μ 6 8 ≤ hi ∧ hi ≤ 10) (hc : ∀ a, sC a → a ≠ 200 + g → a ≠ 6 → μ' a = μ a) (hr : ∀ a, sR a → a ≠ 302 → a ≠ 303 → ν' a = ν a) (h2 : ∀ j, j ≠ g → ν' 302 j = ν 302 j) (h3 : ∀ j, j ≠ g → ν' 303 j = ν 303 j) (h6 : ∀ j, j ≠ 8 → μ' 6 j = μ 6 j) (h68 : μ' 6 8 = hi) (h300 : ∀ j, j ≠ 17 → ν' 300 j = ν 300 j) (h317 : ν' 300 17 = hi)
    (m1 : μ' (200 + g) 1 = -1) (v1 : ν' 302 g = -1) (m2 : μ' (200 + g) 2 = ν' 303 g) (mo : ∀ j, j ≠ 1 → j ≠ 2 → μ' (200 + g) j = μ (200 + g) j) (l0 : 0 ≤ ν' 303 g) (l1 : ν' 303 g ≤ 10000) : sN N μ' ν' := by
  unfold sN
  refine Isite2_ramp h g (by simp (disch := omega) only [bd_some, lm_e, if_pos, if_neg, up_ne, up_at, upf_same, upf_ne, reduceIte, or_true, true_or, Int.reduceToNat, Int.toNat_natCast, tn100, tn200]; exact hg) (-1) hi (Or.inr ⟨rfl, by simp (disch := omega) only [bd_some, lm_e, if_pos, if_neg, up_ne, up_at, upf_same, upf_ne, reduceIte, or_true, true_or, Int.reduceToNat, Int.toNat_natCast, tn100, tn200]; exact hw, by simp (disch := omega) only [bd_some, lm_e, if_pos, if_neg, up_ne, up_at, upf_same, upf_ne, reduceIte, or_true, true_or, Int.reduceToNat, Int.toNat_natCast, tn100, tn200]; exact hh.1, hh.2⟩) (fun a q1 q2 q3 => ?_) (fun a q1 q2 q3 => ?_) (fun j hj => ?_) (fun j hj => ?_) (fun j hj => ?_) ?_ (fun j hj => ?_) ?_ ?_ ?_ ?_ (fun j hj hj2 => ?_) ?_ ?_
  · rw [up_ne q3, up_ne q3]; exact hc a q1 q2 q3
  · unfold sR at q1
    simp (disch := omega) only [bd_some, lm_e, if_pos, if_neg, up_ne, up_at, upf_same, upf_ne, reduceIte, or_true, true_or, Int.reduceToNat, Int.toNat_natCast, tn100, tn200]
    exact hr a (by unfold sR; omega) q2 q3
  · simp (disch := omega) only [bd_some, lm_e, if_pos, if_neg, up_ne, up_at, upf_same, upf_ne, reduceIte, or_true, true_or, Int.reduceToNat, Int.toNat_natCast, tn100, tn200]; exact h2 j hj
  · simp (disch := omega) only [bd_some, lm_e, if_pos, if_neg, up_ne, up_at, upf_same, upf_ne, reduceIte, or_true, true_or, Int.reduceToNat, Int.toNat_natCast, tn100, tn200]; exact h3 j hj
  · rw [up_at, up_at]
    by_cases e : j = 9
    · subst e; rw [upf_same, upf_same]
    · rw [upf_ne e, upf_ne e]; exact h6 j hj
  · simp (disch := omega) only [bd_some, lm_e, if_pos, if_neg, up_ne, up_at, upf_same, upf_ne, reduceIte, or_true, true_or, Int.reduceToNat, Int.toNat_natCast, tn100, tn200]; exact h68
  · rw [up_at, up_at]
    by_cases e : j = 1
    · subst e; rw [upf_same, upf_same]
    · rw [upf_ne e, upf_ne e]; exact h300 j hj
  · simp (disch := omega) only [bd_some, lm_e, if_pos, if_neg, up_ne, up_at, upf_same, upf_ne, reduceIte, or_true, true_or, Int.reduceToNat, Int.toNat_natCast, tn100, tn200]; exact h317
  · simp (disch := omega) only [bd_some, lm_e, if_pos, if_neg, up_ne, up_at, upf_same, upf_ne, reduceIte, or_true, true_or, Int.reduceToNat, Int.toNat_natCast, tn100, tn200]; exact m1
  · simp (disch := omega) only [bd_some, lm_e, if_pos, if_neg, up_ne, up_at, upf_same, upf_ne, reduceIte, or_true, true_or, Int.reduceToNat, Int.toNat_natCast, tn100, tn200]; exact v1
  · simp (disch := omega) only [bd_some, lm_e, if_pos, if_neg, up_ne, up_at, upf_same, upf_ne, reduceIte, or_true, true_or, Int.reduceToNat, Int.toNat_natCast, tn100, tn200]; exact m2
  · simp (disch := omega) only [bd_some, lm_e, if_pos, if_neg, up_ne, up_at, upf_same, upf_ne, reduceIte, or_true, true_or, Int.reduceToNat, Int.toNat_natCast, tn100, tn200]; exact mo j hj hj2
  · simp (disch := omega) only [bd_some, lm_e, if_pos, if_neg, up_ne, up_at, upf_same, upf_ne, reduceIte, or_true, true_or, Int.reduceToNat, Int.toNat_natCast, tn100, tn200]; exact l0
  · simp (disch := omega) only [bd_some, lm_e, if_pos, if_neg, up_ne, up_at, upf_same, upf_ne, reduceIte, or_true, true_or, Int.reduceToNat, Int.toNat_natCast, tn100, tn200]; exact l1
theorem n_gangAt {N : Int} {μ ν : Mem} (h : sN N μ ν) {a : Int} (h0 : 0 ≤ a) (h1 : a < μ 6 5) : f_X3_gangAt μ a = some (200 + (a.toNat : Int), μ) := by
  have n0 := sN_n h
  obtain ⟨z0, -⟩ := sN_g h a.toNat (by omega)
  unfold f_X3_gangAt
  simp (disch := omega) only [z0, bd_some, lm_e, if_pos, if_neg, up_ne, up_at, upf_same, upf_ne, reduceIte, or_true, true_or, Int.reduceToNat, Int.toNat_natCast, tn100, tn200]
theorem n_stoneAt {N : Int} {μ ν : Mem} (h : sN N μ ν) {a : Int} (h0 : 0 ≤ a) (h1 : a < μ 6 6) : f_X3_stoneAt μ a = some (100 + (a.toNat : Int), μ) := by
  have n0 := sN_n h
  obtain ⟨z0, -⟩ := sN_s h a.toNat (by omega)
  unfold f_X3_stoneAt
  simp (disch := omega) only [z0, bd_some, lm_e, if_pos, if_neg, up_ne, up_at, upf_same, upf_ne, reduceIte, or_true, true_or, Int.reduceToNat, Int.toNat_natCast, tn100, tn200]
theorem n_stoneAt_n {μ : Mem} {a : Int} (h0 : ¬ (0 ≤ a ∧ a < μ 6 6)) : f_X3_stoneAt μ a = some (-1, μ) := by
  unfold f_X3_stoneAt
  by_cases hn : a < 0
  · simp (disch := omega) only [bd_some, lm_e, if_pos, if_neg, up_ne, up_at, upf_same, upf_ne, reduceIte, or_true, true_or, Int.reduceToNat, Int.toNat_natCast, tn100, tn200]
  · simp (disch := omega) only [bd_some, lm_e, if_pos, if_neg, up_ne, up_at, upf_same, upf_ne, reduceIte, or_true, true_or, Int.reduceToNat, Int.toNat_natCast, tn100, tn200]
theorem n_pullOf {N : Int} {μ ν : Mem} (h : sN N μ ν) (ht : Itab (μ 17) (ν 312)) (k : Nat) (hk : (k : Int) < μ 6 6) (wet : Int) : f_X6_pullOf μ (100 + (k : Int)) wet = some (pullS (ν 315 k) (ν 317 k) (μ 17) wet, μ) := by
  have n0 := sN_n h
  obtain ⟨s0, s1, s2, s3, s4, s5, s6, s7, s8, s9, s10, s11, -⟩ := sN_s h k hk
  have t0 := ht 0 (by decide)
  have t1 := ht 1 (by decide)
  have t2 := ht 2 (by decide)
  have t3 := ht 3 (by decide)
  have p0 : f_X6_pullOfWeight μ (ν 315 k) 0 = some (pullW (ν 315 k) (μ 17 0), μ) := e_pullOfWeight s6 s7 (by decide) (by decide) ⟨t0.2.1, t0.2.2.1⟩
  have p1 : f_X6_pullOfWeight μ (ν 315 k) 1 = some (pullW (ν 315 k) (μ 17 1), μ) := e_pullOfWeight s6 s7 (by decide) (by decide) ⟨t1.2.1, t1.2.2.1⟩
  have p2 : f_X6_pullOfWeight μ (ν 315 k) 2 = some (pullW (ν 315 k) (μ 17 2), μ) := e_pullOfWeight s6 s7 (by decide) (by decide) ⟨t2.2.1, t2.2.2.1⟩
  have p3 : f_X6_pullOfWeight μ (ν 315 k) 3 = some (pullW (ν 315 k) (μ 17 3), μ) := e_pullOfWeight s6 s7 (by decide) (by decide) ⟨t3.2.1, t3.2.2.1⟩
  unfold f_X6_pullOf f_X4_wantsHaul pullS
  by_cases hw : wet = 0
  · by_cases h3 : ν 317 k = 3
    · simp (disch := omega) only [tn100, s3, s1, p2, bd_some, lm_e, if_pos, if_neg, up_ne, up_at, upf_same, upf_ne, reduceIte, or_true, true_or, Int.reduceToNat, Int.toNat_natCast, tn100, tn200]
    · by_cases h1 : ν 317 k = 1
      · simp (disch := omega) only [tn100, s3, s1, p0, bd_some, lm_e, if_pos, if_neg, up_ne, up_at, upf_same, upf_ne, reduceIte, or_true, true_or, Int.reduceToNat, Int.toNat_natCast, tn100, tn200]
      · by_cases h4 : ν 317 k = 4
        · simp (disch := omega) only [tn100, s3, s1, p0, bd_some, lm_e, if_pos, if_neg, up_ne, up_at, upf_same, upf_ne, reduceIte, or_true, true_or, Int.reduceToNat, Int.toNat_natCast, tn100, tn200]
        · simp (disch := omega) only [tn100, s3, s1, bd_some, lm_e, if_pos, if_neg, up_ne, up_at, upf_same, upf_ne, reduceIte, or_true, true_or, Int.reduceToNat, Int.toNat_natCast, tn100, tn200]
  · by_cases h3 : ν 317 k = 3
    · simp (disch := omega) only [tn100, s3, s1, p3, bd_some, lm_e, if_pos, if_neg, up_ne, up_at, upf_same, upf_ne, reduceIte, or_true, true_or, Int.reduceToNat, Int.toNat_natCast, tn100, tn200]
    · by_cases h1 : ν 317 k = 1
      · simp (disch := omega) only [tn100, s3, s1, p1, bd_some, lm_e, if_pos, if_neg, up_ne, up_at, upf_same, upf_ne, reduceIte, or_true, true_or, Int.reduceToNat, Int.toNat_natCast, tn100, tn200]
      · by_cases h4 : ν 317 k = 4
        · simp (disch := omega) only [tn100, s3, s1, p1, bd_some, lm_e, if_pos, if_neg, up_ne, up_at, upf_same, upf_ne, reduceIte, or_true, true_or, Int.reduceToNat, Int.toNat_natCast, tn100, tn200]
        · simp (disch := omega) only [tn100, s3, s1, bd_some, lm_e, if_pos, if_neg, up_ne, up_at, upf_same, upf_ne, reduceIte, or_true, true_or, Int.reduceToNat, Int.toNat_natCast, tn100, tn200]
theorem n_pull {N : Int} {μ ν : Mem} (h : sN N μ ν) (ht : Itab (μ 17) (ν 312)) {s : Int} (h0 : 0 ≤ s) (h1 : s < μ 6 6) (st wet : Int) : f_X11_pull ν s st wet = some (pullS (ν 315 s.toNat) st (μ 17) wet, ν) := by
  have n0 := sN_n h
  obtain ⟨s0, s1, s2, s3, s4, s5, s6, s7, s8, s9, s10, s11, -⟩ := sN_s h s.toNat (by omega)
  have t0 := ht 0 (by decide)
  have t1 := ht 1 (by decide)
  have t2 := ht 2 (by decide)
  have t3 := ht 3 (by decide)
  have p0 : f_X11_pull_40 s 0 0 ν = some (pullW (ν 315 s.toNat) (μ 17 0), ν) := by
    rw [e_pull40 (i := 0) ⟨h0, by omega⟩ s6 s7 (by decide) (by decide) (by decide) (by rw [show (0 : Int).toNat = 0 from rfl]; omega), show (0 : Int).toNat = 0 from rfl, t0.1]
  have p1 : f_X11_pull_40 s 1 0 ν = some (pullW (ν 315 s.toNat) (μ 17 1), ν) := by
    rw [e_pull40 (i := 1) ⟨h0, by omega⟩ s6 s7 (by decide) (by decide) (by decide) (by rw [show (1 : Int).toNat = 1 from rfl]; omega), show (1 : Int).toNat = 1 from rfl, t1.1]
  have p2 : f_X11_pull_40 s 0 2 ν = some (pullW (ν 315 s.toNat) (μ 17 2), ν) := by
    rw [e_pull40 (i := 2) ⟨h0, by omega⟩ s6 s7 (by decide) (by decide) (by decide) (by rw [show (2 : Int).toNat = 2 from rfl]; omega), show (2 : Int).toNat = 2 from rfl, t2.1]
  have p3 : f_X11_pull_40 s 1 2 ν = some (pullW (ν 315 s.toNat) (μ 17 3), ν) := by
    rw [e_pull40 (i := 3) ⟨h0, by omega⟩ s6 s7 (by decide) (by decide) (by decide) (by rw [show (3 : Int).toNat = 3 from rfl]; omega), show (3 : Int).toNat = 3 from rfl, t3.1]
  unfold f_X11_pull f_X11_pull_17 f_X11_pull_31 pullS
  by_cases hw : wet = 0
  · by_cases h3 : st = 3
    · simp (disch := omega) only [p2, bd_some, lm_e, if_pos, if_neg, up_ne, up_at, upf_same, upf_ne, reduceIte, or_true, true_or, Int.reduceToNat, Int.toNat_natCast, tn100, tn200]
    · by_cases h1 : st = 1
      · simp (disch := omega) only [p0, bd_some, lm_e, if_pos, if_neg, up_ne, up_at, upf_same, upf_ne, reduceIte, or_true, true_or, Int.reduceToNat, Int.toNat_natCast, tn100, tn200]
      · by_cases h4 : st = 4
        · simp (disch := omega) only [p0, bd_some, lm_e, if_pos, if_neg, up_ne, up_at, upf_same, upf_ne, reduceIte, or_true, true_or, Int.reduceToNat, Int.toNat_natCast, tn100, tn200]
        · simp (disch := omega) only [bd_some, lm_e, if_pos, if_neg, up_ne, up_at, upf_same, upf_ne, reduceIte, or_true, true_or, Int.reduceToNat, Int.toNat_natCast, tn100, tn200]
  · by_cases h3 : st = 3
    · simp (disch := omega) only [p3, bd_some, lm_e, if_pos, if_neg, up_ne, up_at, upf_same, upf_ne, reduceIte, or_true, true_or, Int.reduceToNat, Int.toNat_natCast, tn100, tn200]
    · by_cases h1 : st = 1
      · simp (disch := omega) only [p1, bd_some, lm_e, if_pos, if_neg, up_ne, up_at, upf_same, upf_ne, reduceIte, or_true, true_or, Int.reduceToNat, Int.toNat_natCast, tn100, tn200]
      · by_cases h4 : st = 4
        · simp (disch := omega) only [p1, bd_some, lm_e, if_pos, if_neg, up_ne, up_at, upf_same, upf_ne, reduceIte, or_true, true_or, Int.reduceToNat, Int.toNat_natCast, tn100, tn200]
        · simp (disch := omega) only [bd_some, lm_e, if_pos, if_neg, up_ne, up_at, upf_same, upf_ne, reduceIte, or_true, true_or, Int.reduceToNat, Int.toNat_natCast, tn100, tn200]
