/-! THE PLAN, the class: seeking the least day -/
def fS (μ κ : Mem) : Prop := (∀ a, a ≠ 26 → a ≠ 27 → a ≠ 28 → a ≠ 29 → a ≠ 30 → a ≠ 7 → κ a = μ a) ∧ (∀ j, j ≠ 14 → κ 7 j = μ 7 j)
theorem fS_rf (μ : Mem) : fS μ μ := ⟨fun _ _ _ _ _ _ _ => rfl, fun _ _ => rfl⟩
theorem fS_tr {a b c : Mem} (h : fS a b) (k : fS b c) : fS a c := ⟨fun x h1 h2 h3 h4 h5 h6 => (k.1 x h1 h2 h3 h4 h5 h6).trans (h.1 x h1 h2 h3 h4 h5 h6), fun j hj => (k.2 j hj).trans (h.2 j hj)⟩
def bndS (n : Nat) (κ : Mem) : Prop := (∀ g, g < 6 → 0 ≤ κ 30 g ∧ κ 30 g ≤ 3001) ∧ (∀ j, j < n → -1 ≤ κ 29 j) ∧ (∀ j, j < n → κ 29 j ≤ 3000)
/-- what the search rests on -/
def Sr (n : Nat) (rdy : Nat → Nat → Int → Int) (crs : Nat → Int) (μ : Mem) : Prop :=
  (μ 7 5 = (n : Int) ∧ 1 ≤ n ∧ n ≤ 5) ∧
  (∀ i g x, -1 ≤ rdy i g x ∧ rdy i g x ≤ 3000) ∧
  (∀ κ, fS μ κ → bndS n κ → ∀ i g : Nat, i < n → g < 6 → f_X1_layDay κ (i : Int) (g : Int) = some (layPd n rdy crs (κ 30) (κ 29) i g, κ)) ∧
  (∀ κ, fS μ κ → ∀ (i : Nat) (w : Int), i < n → 0 ≤ w → w < 2147483648 → f_X1_mayComeNext κ (i : Int) w = some (b2i (¬ mskP w i ∧ ∀ j, j < n → crs j < crs i → mskP w j), κ)) ∧
  (∀ κ, fS μ κ → ∀ i p k : Nat, i < n → p < n → 1 ≤ k → k ≤ n → κ 26 (k - 1) = (p : Int) → f_X1_leastTaker κ (i : Int) (k : Int) = some (if crs p = crs i then κ 27 p else 0, κ))
section PS
variable {n : Nat} {rdy : Nat → Nat → Int → Int} {crs : Nat → Int} {μ : Mem}
theorem lay_b {F Y : Nat → Int} {i g : Nat} (hr : ∀ i g x, -1 ≤ rdy i g x ∧ rdy i g x ≤ 3000) (hY : ∀ j, j < n → -1 ≤ Y j) : -1 ≤ layPd n rdy crs F Y i g ∧ layPd n rdy crs F Y i g ≤ 3000 := by
  have h := layTo_c (crs := crs) (Y := Y) (i := i) (d := rdy i g (F g)) (hr i g (F g)).1 n hY
  have hl : layPd n rdy crs F Y i g = layTo crs Y i n (rdy i g (F g)) := rfl
  rw [← hl] at h
  have := hr i g (F g)
  rcases h with ⟨h1, -⟩ | ⟨h1, h2, h3, h4, h5⟩
  · omega
  · rcases h5 with h5 | ⟨j, j1, j2, j3⟩
    · omega
    · have := h3 j j1 j2
      omega
theorem lay_ge {F Y : Nat → Int} {i g : Nat} (hr : ∀ i g x, -1 ≤ rdy i g x ∧ rdy i g x ≤ 3000) (hY : ∀ j, j < n → -1 ≤ Y j) (h0 : layPd n rdy crs F Y i g ≠ -1) : ∀ j, j < n → crs j < crs i → Y j ≠ -1 := by
  have h := layTo_c (crs := crs) (Y := Y) (i := i) (d := rdy i g (F g)) (hr i g (F g)).1 n hY
  have hl : layPd n rdy crs F Y i g = layTo crs Y i n (rdy i g (F g)) := rfl
  rw [← hl] at h
  rcases h with ⟨h1, -⟩ | ⟨h1, h2, h3, h4, h5⟩
  · exact absurd h1 h0
  · intro j hj hc
    exact (h3 j hj hc).1
theorem upf_back {f : Nat → Int} {k : Nat} {v : Int} : upf (upf f k v) k (f k) = f := by
  funext j
  by_cases e : j = k
  · subst e; rw [upf_same]
  · rw [upf_ne e, upf_ne e]
/-- what is so while a stone of this depth is sought: κ0 as it was, κ as it is -/
def LSq (n : Nat) (rdy : Nat → Nat → Int → Int) (crs : Nat → Int) (μ κ0 κ : Mem) (depth d : Nat) (last : Int) : Prop :=
  fS μ κ ∧ κ 29 = κ0 29 ∧ κ 30 = κ0 30 ∧ (∀ j, κ0 29 j ≠ -1 → κ 27 j = κ0 27 j ∧ κ 28 j = κ0 28 j) ∧ (∀ k, k < depth → κ 26 k = κ0 26 k) ∧ κ 7 14 ≤ κ0 7 14 ∧ (κ 7 14 = κ0 7 14 ∨ (last ≤ κ 7 14 ∧ ∃ l : List (Nat × Nat), l.length = d ∧ sched n rdy crs (κ 7 14) l (κ0 30) (κ0 29)))
theorem LSq_rf {κ : Mem} {depth d : Nat} {last : Int} (h : fS μ κ) : LSq n rdy crs μ κ κ depth d last := ⟨h, rfl, rfl, fun _ _ => ⟨rfl, rfl⟩, fun _ _ => rfl, Int.le_refl _, Or.inl rfl⟩
/-- the gang that the one before asks for -/
def prevG (crs : Nat → Int) (κ : Mem) (depth : Nat) (i g : Nat) : Prop := 1 ≤ depth → crs (κ 26 (depth - 1)).toNat = crs i → κ 27 (κ 26 (depth - 1)).toNat ≤ (g : Int)
def prevL (crs : Nat → Int) (κ : Mem) (depth : Nat) : List (Nat × Nat) → Prop
  | [] => True
  | p :: l => prevG crs κ depth p.1 p.2 ∧ canon crs (crs p.1) p.2 l
theorem e_seekLeast (hS : Sr n rdy crs μ) : ∀ (d fuel depth : Nat) (w last : Int) (κ : Mem), d < fuel → depth + d = n → fS μ κ → bndS n κ → (0 ≤ w ∧ w < 2147483648) → (∀ j, j < n → (mskP w j ↔ κ 29 j ≠ -1)) → -1 ≤ last → last ≤ κ 7 14 → κ 7 14 ≤ 3001 → (1 ≤ depth → ∃ p : Nat, p < n ∧ κ 26 (depth - 1) = (p : Int) ∧ κ 29 p ≠ -1 ∧ 0 ≤ κ 27 p ∧ κ 27 p < 6) → ∃ κ', f_X1_seekLeast fuel κ (depth : Int) w last = some (0, κ') ∧ LSq n rdy crs μ κ κ' depth d last ∧ (∀ (D : Int) (l : List (Nat × Nat)), l.length = d → sched n rdy crs D l (κ 30) (κ 29) → prevL crs κ depth l → last ≤ D → κ' 7 14 ≤ D ∨ κ' 7 14 ≤ μ 7 15) := by
  obtain ⟨⟨hn1, hn2, hn3⟩, hrb, hlay, hmay, htak⟩ := hS
  intro d
  induction d with
  | zero =>
    intro fuel depth w last κ h1 h2 h3 h4 h5 h6 h7 h8 h9 h10
    obtain ⟨fuel, rfl⟩ : ∃ m, fuel = m + 1 := ⟨fuel - 1, by omega⟩
    have h75 : κ 7 5 = (n : Int) := by rw [h3.2 5 (by decide)]; exact hn1
    refine ⟨up κ 7 14 last, ?_, ⟨fS_tr h3 ⟨fun a a1 a2 a3 a4 a5 a6 => by simp (disch := omega) only [bd_some, lm_e, if_pos, if_neg, up_ne, up_at, upf_same, upf_ne, reduceIte, or_true, true_or, Int.reduceToNat, Int.toNat_natCast, tn100, tn200], fun j hj => by simp (disch := omega) only [bd_some, lm_e, if_pos, if_neg, up_ne, up_at, upf_same, upf_ne, reduceIte, or_true, true_or, Int.reduceToNat, Int.toNat_natCast, tn100, tn200]⟩, by simp (disch := omega) only [bd_some, lm_e, if_pos, if_neg, up_ne, up_at, upf_same, upf_ne, reduceIte, or_true, true_or, Int.reduceToNat, Int.toNat_natCast, tn100, tn200], by simp (disch := omega) only [bd_some, lm_e, if_pos, if_neg, up_ne, up_at, upf_same, upf_ne, reduceIte, or_true, true_or, Int.reduceToNat, Int.toNat_natCast, tn100, tn200], fun j hj => by simp (disch := omega) only [bd_some, lm_e, if_pos, if_neg, up_ne, up_at, upf_same, upf_ne, reduceIte, or_true, true_or, Int.reduceToNat, Int.toNat_natCast, tn100, tn200]; exact ⟨trivial, trivial⟩, fun k hk => by simp (disch := omega) only [bd_some, lm_e, if_pos, if_neg, up_ne, up_at, upf_same, upf_ne, reduceIte, or_true, true_or, Int.reduceToNat, Int.toNat_natCast, tn100, tn200], by simp (disch := omega) only [bd_some, lm_e, if_pos, if_neg, up_ne, up_at, upf_same, upf_ne, reduceIte, or_true, true_or, Int.reduceToNat, Int.toNat_natCast, tn100, tn200]; omega, Or.inr ⟨by simp (disch := omega) only [bd_some, lm_e, if_pos, if_neg, up_ne, up_at, upf_same, upf_ne, reduceIte, or_true, true_or, Int.reduceToNat, Int.toNat_natCast, tn100, tn200]; exact Int.le_refl _, [], rfl, trivial⟩⟩, ?_⟩
    · rw [f_X1_seekLeast_e, if_neg (by omega), lm_e]
    · intro D l _ _ _ hD
      left
      simp (disch := omega) only [bd_some, lm_e, if_pos, if_neg, up_ne, up_at, upf_same, upf_ne, reduceIte, or_true, true_or, Int.reduceToNat, Int.toNat_natCast, tn100, tn200]
      exact hD
  | succ d ih =>
    intro fuel depth w last κ h1 h2 h3 h4 h5 h6 h7 h8 h9 h10
    obtain ⟨fuel, rfl⟩ : ∃ m, fuel = m + 1 := ⟨fuel - 1, by omega⟩
    have h75 : κ 7 5 = (n : Int) := by rw [h3.2 5 (by decide)]; exact hn1
    have hY : ∀ j, j < n → -1 ≤ κ 29 j := h4.2.1
    -- one gang after the other
    have inner : ∀ (i : Nat), i < n → ¬ mskP w i → ∀ (k17 : Int → Int → Int → Int → Mem → Option (Int × Mem)) (e m g : Nat) (κc : Mem), g + e = 6 → e < m → LSq n rdy crs μ κ κc depth (d + 1) last → ∃ κ', f_X1_seekLeast_48 (f_X1_seekLeast fuel) k17 m (depth : Int) w last (i : Int) (g : Int) κc = k17 (depth : Int) w last ((i : Int) + 1) κ' ∧ LSq n rdy crs μ κ κ' depth (d + 1) last ∧ κ' 7 14 ≤ κc 7 14 ∧ (∀ (D : Int) (g' : Nat) (l : List (Nat × Nat)), g ≤ g' → (l.length = d) → sched n rdy crs D ((i, g') :: l) (κ 30) (κ 29) → canon crs (crs i) g' l → last ≤ D → κ' 7 14 ≤ D ∨ κ' 7 14 ≤ μ 7 15) := by
      intro i hi hmi k17 e
      induction e with
      | zero =>
        intro m g κc e1 e2 e3
        obtain ⟨m, rfl⟩ : ∃ z, m = z + 1 := ⟨m - 1, by omega⟩
        refine ⟨κc, ?_, e3, Int.le_refl _, fun D g' l q1 _ q3 _ _ => ?_⟩
        · rw [f_X1_seekLeast_48_e, if_pos (by omega), if_pos (by omega)]
        · rw [sched_e] at q3
          have := q3.2.1
          omega
      | succ e ih2 =>
        intro m g κc e1 e2 e3
        obtain ⟨m, rfl⟩ : ∃ z, m = z + 1 := ⟨m - 1, by omega⟩
        obtain ⟨l1, l2, l3, l4, l5, l6, l7⟩ := e3
        have e3' : LSq n rdy crs μ κ κc depth (d + 1) last := ⟨l1, l2, l3, l4, l5, l6, l7⟩
        have hfl : κc 7 15 = μ 7 15 := l1.2 15 (by decide)
        rw [f_X1_seekLeast_48_e, if_neg (by omega)]
        by_cases cf : κc 7 14 ≤ κc 7 15
        · refine ⟨κc, ?_, e3', Int.le_refl _, fun D g' l _ _ _ _ _ => Or.inr (by omega)⟩
          rw [if_pos cf, if_pos (by omega)]
        rw [if_neg cf]
        have hbc : bndS n κc := by unfold bndS; rw [l2, l3]; exact h4
        have hld := hlay κc l1 hbc i g hi (by omega)
        rw [l2, l3] at hld
        generalize hday : layPd n rdy crs (κ 30) (κ 29) i g = day at hld
        have hdb := lay_b (n := n) (rdy := rdy) (crs := crs) (F := κ 30) (Y := κ 29) (i := i) (g := g) hrb hY
        rw [hday] at hdb
        rw [hld, bd_some]
        by_cases c1 : day = -1
        · obtain ⟨κ', q1, q2, q3, q4⟩ := ih2 m (g + 1) κc (by omega) (by omega) e3'
          refine ⟨κ', ?_, q2, q3, fun D g' l x1 x2 x3 x4 x5 => ?_⟩
          · rw [if_pos c1, if_pos (by omega), show (g : Int) + 1 = ((g + 1 : Nat) : Int) by omega, q1]
          · by_cases eg : g' = g
            · subst eg
              rw [sched_e] at x3
              exact absurd (hday.trans c1) x3.2.2.2.1
            · exact q4 D g' l (by omega) x2 x3 x4 x5
        rw [if_neg c1]
        by_cases c2 : day < κc 7 14
        case neg =>
          obtain ⟨κ', q1, q2, q3, q4⟩ := ih2 m (g + 1) κc (by omega) (by omega) e3'
          refine ⟨κ', ?_, q2, q3, fun D g' l x1 x2 x3 x4 x5 => ?_⟩
          · rw [if_neg c2, if_pos (by omega), show (g : Int) + 1 = ((g + 1 : Nat) : Int) by omega, q1]
          · by_cases eg : g' = g
            · subst eg
              rw [sched_e] at x3
              have := x3.2.2.2.2.1
              rw [show layPd n rdy crs (κ 30) (κ 29) (i, g').1 (i, g').2 = day from hday] at this
              left
              omega
            · exact q4 D g' l (by omega) x2 x3 x4 x5
        -- it is placed
        let κ1 : Mem := up (up (up (up (up κc 26 depth (i : Int)) 27 i (g : Int)) 28 i (κc 30 g)) 29 i day) 30 g (day + 1)
        have hκ1 : κ1 = up (up (up (up (up κc 26 depth (i : Int)) 27 i (g : Int)) 28 i (κc 30 g)) 29 i day) 30 g (day + 1) := rfl
        have hpl : f_X1_place (up κc 26 depth (i : Int)) (i : Int) (g : Int) day = some (0, κ1) := by
          unfold f_X1_place
          rw [if_pos (by omega), lm_e, if_pos (by omega)]
          simp only [Int.toNat_natCast]
          rw [lm_e, lm_e, if_pos (by omega), lm_e, hκ1]
          simp (disch := omega) only [bd_some, lm_e, if_pos, if_neg, up_ne, up_at, upf_same, upf_ne, reduceIte, or_true, true_or, Int.reduceToNat, Int.toNat_natCast, tn100, tn200]
        have k129 : κ1 29 = upf (κ 29) i day := by rw [hκ1]; simp (disch := omega) only [bd_some, lm_e, if_pos, if_neg, up_ne, up_at, upf_same, upf_ne, reduceIte, or_true, true_or, Int.reduceToNat, Int.toNat_natCast, tn100, tn200]; rw [l2]
        have k130 : κ1 30 = upf (κ 30) g (day + 1) := by rw [hκ1]; simp (disch := omega) only [bd_some, lm_e, if_pos, if_neg, up_ne, up_at, upf_same, upf_ne, reduceIte, or_true, true_or, Int.reduceToNat, Int.toNat_natCast, tn100, tn200]; rw [l3]
        have f1 : fS κc κ1 := ⟨fun a a1 a2 a3 a4 a5 a6 => by rw [hκ1]; simp (disch := omega) only [bd_some, lm_e, if_pos, if_neg, up_ne, up_at, upf_same, upf_ne, reduceIte, or_true, true_or, Int.reduceToNat, Int.toNat_natCast, tn100, tn200], fun j hj => by rw [hκ1]; simp (disch := omega) only [bd_some, lm_e, if_pos, if_neg, up_ne, up_at, upf_same, upf_ne, reduceIte, or_true, true_or, Int.reduceToNat, Int.toNat_natCast, tn100, tn200]⟩
        have k14 : κ1 7 14 = κc 7 14 := by rw [hκ1]; simp (disch := omega) only [bd_some, lm_e, if_pos, if_neg, up_ne, up_at, upf_same, upf_ne, reduceIte, or_true, true_or, Int.reduceToNat, Int.toNat_natCast, tn100, tn200]
        have hYi : κ 29 i = -1 := by
          by_cases z : κ 29 i = -1
          · exact z
          · exact absurd ((h6 i hi).mpr z) hmi
        obtain ⟨s1, s2, s3⟩ := msk_set h5.1 h5.2 (show i < 31 by omega)
        let last2 : Int := if last < day then day else last
        have hlast2 : last2 = if last < day then day else last := rfl
        have hl2 : last ≤ last2 ∧ day ≤ last2 ∧ (last2 = last ∨ last2 = day) := by
          rw [hlast2]
          split <;> omega
        have hmax : f_J9_max_7cf53 κ1 last day = some (last2, κ1) := by
          unfold f_J9_max_7cf53
          rw [hlast2]
          split <;> rfl
        clear_value last2
        have hlc : last ≤ κc 7 14 := by
          rcases l7 with q | ⟨q, -⟩
          · omega
          · exact q
        obtain ⟨κ2, r1, r2, r3⟩ := ih fuel (depth + 1) (zor w (zshl 1 (i : Int))) last2 κ1 (by omega) (by omega) (fS_tr l1 f1) ⟨fun g' hg' => by
          rw [k130]
          by_cases eg : g' = g
          · subst eg; rw [upf_same]; omega
          · rw [upf_ne eg]; exact h4.1 g' hg', fun j hj => by
          rw [k129]
          by_cases ej : j = i
          · subst ej; rw [upf_same]; omega
          · rw [upf_ne ej]; exact hY j hj, fun j hj => by
          rw [k129]
          by_cases ej : j = i
          · subst ej; rw [upf_same]; omega
          · rw [upf_ne ej]; exact h4.2.2 j hj⟩ ⟨s1, s2⟩ (fun j hj => by
          rw [s3 j, k129]
          by_cases ej : j = i
          · subst ej
            rw [upf_same]
            exact ⟨fun _ => c1, fun _ => Or.inr rfl⟩
          · rw [upf_ne ej, h6 j hj]
            exact ⟨fun x => x.elim id (fun y => absurd y ej), Or.inl⟩) (by omega) (by rw [k14]; omega) (by rw [k14]; omega) (fun _ => ⟨i, hi, by rw [Nat.add_sub_cancel, hκ1]; simp (disch := omega) only [bd_some, lm_e, if_pos, if_neg, up_ne, up_at, upf_same, upf_ne, reduceIte, or_true, true_or, Int.reduceToNat, Int.toNat_natCast, tn100, tn200], by rw [k129, upf_same]; exact c1, by rw [hκ1]; simp (disch := omega) only [bd_some, lm_e, if_pos, if_neg, up_ne, up_at, upf_same, upf_ne, reduceIte, or_true, true_or, Int.reduceToNat, Int.toNat_natCast, tn100, tn200]; omega, by rw [hκ1]; simp (disch := omega) only [bd_some, lm_e, if_pos, if_neg, up_ne, up_at, upf_same, upf_ne, reduceIte, or_true, true_or, Int.reduceToNat, Int.toNat_natCast, tn100, tn200]; omega⟩)
        obtain ⟨w1, w2, w3, w4, w5, w6, w7⟩ := r2
        -- and taken back
        have e28 : κ2 28 i = κ 30 g := by
          rw [(w4 i (by rw [k129, upf_same]; exact c1)).2, hκ1]
          simp (disch := omega) only [bd_some, lm_e, if_pos, if_neg, up_ne, up_at, upf_same, upf_ne, reduceIte, or_true, true_or, Int.reduceToNat, Int.toNat_natCast, tn100, tn200]
          rw [l3]
        let κ3 : Mem := up (up κ2 30 g (κ 30 g)) 29 i (-1)
        have hκ3 : κ3 = up (up κ2 30 g (κ 30 g)) 29 i (-1) := rfl
        have htb : f_X1_takeBack κ2 (i : Int) (g : Int) = some (0, κ3) := by
          unfold f_X1_takeBack
          rw [if_pos (by omega), if_pos (by omega)]
          simp only [Int.toNat_natCast]
          rw [lm_e, lm_e, e28, hκ3]
        have k329 : κ3 29 = κ 29 := by
          rw [hκ3]
          simp (disch := omega) only [bd_some, lm_e, if_pos, if_neg, up_ne, up_at, upf_same, upf_ne, reduceIte, or_true, true_or, Int.reduceToNat, Int.toNat_natCast, tn100, tn200]
          rw [w2, k129, ← hYi, upf_back]
        have k330 : κ3 30 = κ 30 := by
          rw [hκ3]
          simp (disch := omega) only [bd_some, lm_e, if_pos, if_neg, up_ne, up_at, upf_same, upf_ne, reduceIte, or_true, true_or, Int.reduceToNat, Int.toNat_natCast, tn100, tn200]
          rw [w3, k130, upf_back]
        have k3 : LSq n rdy crs μ κ κ3 depth (d + 1) last := by
          refine ⟨fS_tr w1 ⟨fun a a1 a2 a3 a4 a5 a6 => by rw [hκ3]; simp (disch := omega) only [bd_some, lm_e, if_pos, if_neg, up_ne, up_at, upf_same, upf_ne, reduceIte, or_true, true_or, Int.reduceToNat, Int.toNat_natCast, tn100, tn200], fun j hj => by rw [hκ3]; simp (disch := omega) only [bd_some, lm_e, if_pos, if_neg, up_ne, up_at, upf_same, upf_ne, reduceIte, or_true, true_or, Int.reduceToNat, Int.toNat_natCast, tn100, tn200]⟩, k329, k330, fun j hj => ?_, fun k hk => ?_, ?_, ?_⟩
          · have ej : j ≠ i := fun z => hj (by rw [z]; exact hYi)
            have := w4 j (by rw [k129, upf_ne ej]; exact hj)
            have e1' := l4 j hj
            have a27 : κ1 27 j = κc 27 j := by rw [hκ1]; simp (disch := omega) only [bd_some, lm_e, if_pos, if_neg, up_ne, up_at, upf_same, upf_ne, reduceIte, or_true, true_or, Int.reduceToNat, Int.toNat_natCast, tn100, tn200]
            have a28 : κ1 28 j = κc 28 j := by rw [hκ1]; simp (disch := omega) only [bd_some, lm_e, if_pos, if_neg, up_ne, up_at, upf_same, upf_ne, reduceIte, or_true, true_or, Int.reduceToNat, Int.toNat_natCast, tn100, tn200]
            rw [a27, a28] at this
            rw [hκ3]
            simp (disch := omega) only [bd_some, lm_e, if_pos, if_neg, up_ne, up_at, upf_same, upf_ne, reduceIte, or_true, true_or, Int.reduceToNat, Int.toNat_natCast, tn100, tn200]
            exact ⟨this.1.trans e1'.1, this.2.trans e1'.2⟩
          · rw [hκ3]
            simp (disch := omega) only [bd_some, lm_e, if_pos, if_neg, up_ne, up_at, upf_same, upf_ne, reduceIte, or_true, true_or, Int.reduceToNat, Int.toNat_natCast, tn100, tn200]
            rw [w5 k (by omega), hκ1]
            simp (disch := omega) only [bd_some, lm_e, if_pos, if_neg, up_ne, up_at, upf_same, upf_ne, reduceIte, or_true, true_or, Int.reduceToNat, Int.toNat_natCast, tn100, tn200]
            exact l5 k hk
          · rw [hκ3]
            simp (disch := omega) only [bd_some, lm_e, if_pos, if_neg, up_ne, up_at, upf_same, upf_ne, reduceIte, or_true, true_or, Int.reduceToNat, Int.toNat_natCast, tn100, tn200]
            omega
          · have e14 : κ3 7 14 = κ2 7 14 := by rw [hκ3]; simp (disch := omega) only [bd_some, lm_e, if_pos, if_neg, up_ne, up_at, upf_same, upf_ne, reduceIte, or_true, true_or, Int.reduceToNat, Int.toNat_natCast, tn100, tn200]
            rw [e14]
            rcases w7 with q | ⟨q1, l, q2, q3⟩
            · rw [q, k14]
              exact l7
            · refine Or.inr ⟨by omega, (i, g) :: l, by rw [List.length_cons, q2], ?_⟩
              rw [sched_e]
              refine ⟨hi, by omega, hYi, by rw [show layPd n rdy crs (κ 30) (κ 29) (i, g).1 (i, g).2 = day from hday]; exact c1, by rw [show layPd n rdy crs (κ 30) (κ 29) (i, g).1 (i, g).2 = day from hday]; omega, ?_⟩
              rw [show layPd n rdy crs (κ 30) (κ 29) (i, g).1 (i, g).2 = day from hday]
              rw [k129, k130] at q3
              exact q3
        have e14 : κ3 7 14 = κ2 7 14 := by rw [hκ3]; simp (disch := omega) only [bd_some, lm_e, if_pos, if_neg, up_ne, up_at, upf_same, upf_ne, reduceIte, or_true, true_or, Int.reduceToNat, Int.toNat_natCast, tn100, tn200]
        obtain ⟨κ', q1, q2, q3, q4⟩ := ih2 m (g + 1) κ3 (by omega) (by omega) k3
        refine ⟨κ', ?_, q2, by omega, fun D g' l x1 x2 x3 x4 x5 => ?_⟩
        · rw [if_pos c2, if_pos (by omega), Int.toNat_natCast, lm_e, hpl, bd_some, hmax, bd_some, if_pos (by omega), show (depth : Int) + 1 = ((depth + 1 : Nat) : Int) by omega, r1, bd_some, htb, bd_some, if_pos (by omega), show (g : Int) + 1 = ((g + 1 : Nat) : Int) by omega, q1]
        · by_cases eg : g' = g
          · subst eg
            rw [sched_e, show layPd n rdy crs (κ 30) (κ 29) (i, g').1 (i, g').2 = day from hday] at x3
            obtain ⟨-, -, -, -, y5, y6⟩ := x3
            have z := r3 D l x2 (by rw [k129, k130]; exact y6) (by
              cases l with
              | nil => exact trivial
              | cons p l =>
                refine ⟨fun _ hcc => ?_, x4.2⟩
                have e26 : κ1 26 (depth + 1 - 1) = (i : Int) := by rw [Nat.add_sub_cancel, hκ1]; simp (disch := omega) only [bd_some, lm_e, if_pos, if_neg, up_ne, up_at, upf_same, upf_ne, reduceIte, or_true, true_or, Int.reduceToNat, Int.toNat_natCast, tn100, tn200]
                rw [e26, Int.toNat_natCast] at hcc ⊢
                have e27 : κ1 27 i = (g' : Int) := by rw [hκ1]; simp (disch := omega) only [bd_some, lm_e, if_pos, if_neg, up_ne, up_at, upf_same, upf_ne, reduceIte, or_true, true_or, Int.reduceToNat, Int.toNat_natCast, tn100, tn200]
                rw [e27]
                have := x4.1 hcc.symm
                omega) (by omega)
            omega
          · exact q4 D g' l (by omega) x2 x3 x4 x5
    -- one stone after the other
    have outer : ∀ (e m i : Nat) (κc : Mem), i + e = n → e < m → LSq n rdy crs μ κ κc depth (d + 1) last → ∃ κ', f_X1_seekLeast_17 (f_X1_seekLeast fuel) m (depth : Int) w last (i : Int) κc = some (0, κ') ∧ LSq n rdy crs μ κ κ' depth (d + 1) last ∧ κ' 7 14 ≤ κc 7 14 ∧ (∀ (D : Int) (i' g' : Nat) (l : List (Nat × Nat)), i ≤ i' → (l.length = d) → sched n rdy crs D ((i', g') :: l) (κ 30) (κ 29) → prevG crs κ depth i' g' → canon crs (crs i') g' l → last ≤ D → κ' 7 14 ≤ D ∨ κ' 7 14 ≤ μ 7 15) := by
      intro e
      induction e with
      | zero =>
        intro m i κc e1 e2 e3
        obtain ⟨m, rfl⟩ : ∃ z, m = z + 1 := ⟨m - 1, by omega⟩
        have h75c : κc 7 5 = (n : Int) := by rw [e3.1.2 5 (by decide)]; exact hn1
        refine ⟨κc, ?_, e3, Int.le_refl _, fun D i' g' l q1 _ q3 _ _ _ => ?_⟩
        · rw [f_X1_seekLeast_17_e, if_pos (by omega)]
        · rw [sched_e] at q3
          have := q3.1
          omega
      | succ e ih2 =>
        intro m i κc e1 e2 e3
        obtain ⟨m, rfl⟩ : ∃ z, m = z + 1 := ⟨m - 1, by omega⟩
        obtain ⟨l1, l2, l3, l4, l5, l6, l7⟩ := e3
        have e3' : LSq n rdy crs μ κ κc depth (d + 1) last := ⟨l1, l2, l3, l4, l5, l6, l7⟩
        have h75c : κc 7 5 = (n : Int) := by rw [l1.2 5 (by decide)]; exact hn1
        rw [f_X1_seekLeast_17_e, if_neg (by omega), hmay κc l1 i w (by omega) h5.1 h5.2, bd_some]
        by_cases cm : ¬ mskP w i ∧ ∀ j, j < n → crs j < crs i → mskP w j
        case neg =>
          obtain ⟨κ', q1, q2, q3, q4⟩ := ih2 m (i + 1) κc (by omega) (by omega) e3'
          refine ⟨κ', ?_, q2, q3, fun D i' g' l x1 x2 x3 x4 x5 x6 => ?_⟩
          · rw [b2i_f cm, if_pos rfl, if_pos (by omega), show (i : Int) + 1 = ((i + 1 : Nat) : Int) by omega, q1]
          · by_cases ei : i' = i
            · subst ei
              exfalso
              apply cm
              rw [sched_e] at x3
              obtain ⟨y1, y2, y3, y4, -⟩ := x3
              exact ⟨fun z => (h6 i' y1).mp z y3, fun j hj hc => (h6 j hj).mpr (lay_ge hrb hY y4 j hj hc)⟩
            · exact q4 D i' g' l (by omega) x2 x3 x4 x5 x6
        -- the first gang that may
        have tk : ∃ g0 : Nat, g0 ≤ 6 ∧ f_X1_leastTaker κc (i : Int) (depth : Int) = some ((g0 : Int), κc) ∧ ∀ g' : Nat, prevG crs κ depth i g' → g0 ≤ g' := by
          by_cases cd : depth = 0
          · refine ⟨0, by omega, ?_, fun g' _ => Nat.zero_le _⟩
            unfold f_X1_leastTaker
            rw [if_pos (by omega)]
            rfl
          · obtain ⟨p, p1, p2, p3, p4, p5⟩ := h10 (by omega)
            have p2c : κc 26 (depth - 1) = (p : Int) := by rw [l5 (depth - 1) (by omega)]; exact p2
            have p27 : κc 27 p = κ 27 p := (l4 p p3).1
            have ht := htak κc l1 i p depth (by omega) p1 (by omega) (by omega) p2c
            by_cases cc : crs p = crs i
            · rw [if_pos cc, p27] at ht
              refine ⟨(κ 27 p).toNat, by omega, by rw [ht]; exact congrArg (fun z => some (z, κc)) (by omega), fun g' hg' => ?_⟩
              have := hg' (by omega) (by rw [p2, Int.toNat_natCast]; exact cc)
              rw [p2, Int.toNat_natCast] at this
              omega
            · rw [if_neg cc] at ht
              exact ⟨0, by omega, ht, fun g' _ => Nat.zero_le _⟩
        obtain ⟨g0, t1, t2, t3⟩ := tk
        obtain ⟨κ2, r1, r2, r3, r4⟩ := inner i (by omega) cm.1 (f_X1_seekLeast_17 (f_X1_seekLeast fuel) m) (6 - g0) 64 g0 κc (by omega) (by omega) e3'
        obtain ⟨κ', q1, q2, q3, q4⟩ := ih2 m (i + 1) κ2 (by omega) (by omega) r2
        refine ⟨κ', ?_, q2, by omega, fun D i' g' l x1 x2 x3 x4 x5 x6 => ?_⟩
        · rw [b2i_t cm, if_neg (by decide), t2, bd_some, r1, show (i : Int) + 1 = ((i + 1 : Nat) : Int) by omega, q1]
        · by_cases ei : i' = i
          · subst ei
            have := r4 D g' l (t3 g' x4) x2 x3 x5 x6
            omega
          · exact q4 D i' g' l (by omega) x2 x3 x4 x5 x6
    obtain ⟨κ', q1, q2, q3, q4⟩ := outer n 64 0 κ (by omega) (by omega) (LSq_rf h3)
    rw [show ((0 : Nat) : Int) = 0 from rfl] at q1
    refine ⟨κ', ?_, q2, fun D l x1 x2 x3 x4 => ?_⟩
    · rw [f_X1_seekLeast_e, if_pos (by omega), q1]
    · cases l with
      | nil => cases x1
      | cons p l => exact q4 D p.1 p.2 l (Nat.zero_le _) (by rw [List.length_cons] at x1; omega) x2 x3.1 x3.2 x4
end PS
