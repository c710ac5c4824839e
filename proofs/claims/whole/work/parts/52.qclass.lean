/-! QUARREL, the class: borders, raising -/
def bdS (μ : Mem) (B : Nat) (P : Int → Prop) : Prop := μ 8 10 = (B : Int) ∧ B ≤ 40 ∧ (∀ i j, i < j → j < B → μ 36 i < μ 36 j) ∧ ∀ d : Int, (∃ j, j < B ∧ μ 36 j = d) ↔ P d
theorem b_at {μ : Mem} {B j : Nat} {d : Int} (h1 : μ 8 10 = (B : Int)) (h2 : B ≤ 40) (h3 : ∀ i j, i < j → j < B → μ 36 i < μ 36 j) (hj : j < B) (hd : μ 36 j = d) : ∀ (e n v : Nat), v + e = j → e < n → f_X8_borderAt_2 n d (v : Int) μ = some ((j : Int), μ)
  | 0, n + 1, v, q1, q2 => by
    rw [f_X8_borderAt_2_e, if_neg (by omega), if_pos (by omega), Int.toNat_natCast, show v = j by omega, if_pos hd]
  | e + 1, n + 1, v, q1, q2 => by
    have ih := b_at h1 h2 h3 hj hd e n (v + 1) (by omega) (by omega)
    have hlt := h3 v j (by omega) hj
    rw [f_X8_borderAt_2_e, if_neg (by omega), if_pos (by omega), Int.toNat_natCast, if_neg (by omega), if_pos (by omega), show (v : Int) + 1 = ((v + 1 : Nat) : Int) by omega, ih]
theorem b_no {μ : Mem} {B : Nat} {d : Int} (h1 : μ 8 10 = (B : Int)) (h2 : B ≤ 40) (hd : ∀ j, j < B → μ 36 j ≠ d) : ∀ (e n v : Nat), v + e = B → e < n → f_X8_borderAt_2 n d (v : Int) μ = some (-1, μ)
  | 0, n + 1, v, q1, q2 => by
    rw [f_X8_borderAt_2_e, if_pos (by omega)]
  | e + 1, n + 1, v, q1, q2 => by
    have ih := b_no h1 h2 hd e n (v + 1) (by omega) (by omega)
    have hne := hd v (by omega)
    rw [f_X8_borderAt_2_e, if_neg (by omega), if_pos (by omega), Int.toNat_natCast, if_neg hne, if_pos (by omega), show (v : Int) + 1 = ((v + 1 : Nat) : Int) by omega, ih]
theorem b_at0 {μ : Mem} {B j : Nat} {P : Int → Prop} {d : Int} (h : bdS μ B P) (hj : j < B) (hd : μ 36 j = d) : f_X8_borderAt μ d = some ((j : Int), μ) := by
  have := b_at h.1 h.2.1 h.2.2.1 hj hd j 64 0 (by omega) (by have := h.2.1; omega)
  rw [show ((0 : Nat) : Int) = 0 from rfl] at this
  exact this
theorem b_no0 {μ : Mem} {B : Nat} {P : Int → Prop} {d : Int} (h : bdS μ B P) (hd : ¬ P d) : f_X8_borderAt μ d = some (-1, μ) := by
  have := b_no h.1 h.2.1 (fun j hj e => hd ((h.2.2.2 d).mp ⟨j, hj, e⟩)) B 64 0 (by omega) (by have := h.2.1; omega)
  rw [show ((0 : Nat) : Int) = 0 from rfl] at this
  exact this
def insB (κ : Mem) (B : Nat) (d : Int) (p : Nat) (μ' : Mem) : Prop :=
  p ≤ B ∧ (p = 0 ∨ κ 36 (p - 1) ≤ d) ∧ (∀ j, p ≤ j → j < B → d < κ 36 j) ∧ (∀ b, b ≠ 36 → b ≠ 8 → μ' b = κ b) ∧ (∀ j, j ≠ 10 → μ' 8 j = κ 8 j) ∧ μ' 8 10 = (B : Int) + 1 ∧ (∀ j, j < p → μ' 36 j = κ 36 j) ∧ μ' 36 p = d ∧ (∀ j, p ≤ j → j < B → μ' 36 (j + 1) = κ 36 j)
theorem insB_end {κ : Mem} {B : Nat} {d : Int} (hk : B < 40) (h8 : κ 8 10 = (B : Int)) (p : Nat) (μ : Mem) (h1 : p ≤ B) (h2 : p = 0 ∨ κ 36 (p - 1) ≤ d) (h3 : ∀ b, b ≠ 36 → μ b = κ b) (h4 : ∀ j, j < p → μ 36 j = κ 36 j) (h5 : ∀ j, p ≤ j → j < B → μ 36 (j + 1) = κ 36 j ∧ d < κ 36 j) : ∃ μ', f_X8_addBorder_63 d (p : Int) μ = some (0, μ') ∧ insB κ B d p μ' := by
  have e8 := h3 8 (by decide)
  refine ⟨up (up μ 36 p d) 8 10 ((B : Int) + 1), ?_, h1, h2, fun j j1 j2 => (h5 j j1 j2).2, fun b b1 b2 => ?_, fun j hj => ?_, by simp (disch := omega) only [bd_some, lm_e, if_pos, if_neg, up_ne, up_at, upf_same, upf_ne, reduceIte, or_true, true_or, Int.reduceToNat, Int.toNat_natCast, tn100, tn200], fun j hj => ?_, by simp (disch := omega) only [bd_some, lm_e, if_pos, if_neg, up_ne, up_at, upf_same, upf_ne, reduceIte, or_true, true_or, Int.reduceToNat, Int.toNat_natCast, tn100, tn200], fun j j1 j2 => ?_⟩
  · unfold f_X8_addBorder_63
    simp (disch := omega) only [e8, h8, bd_some, lm_e, if_pos, if_neg, up_ne, up_at, upf_same, upf_ne, reduceIte, or_true, true_or, Int.reduceToNat, Int.toNat_natCast, tn100, tn200]
  · simp (disch := omega) only [bd_some, lm_e, if_pos, if_neg, up_ne, up_at, upf_same, upf_ne, reduceIte, or_true, true_or, Int.reduceToNat, Int.toNat_natCast, tn100, tn200]
    exact h3 b b1
  · simp (disch := omega) only [bd_some, lm_e, if_pos, if_neg, up_ne, up_at, upf_same, upf_ne, reduceIte, or_true, true_or, Int.reduceToNat, Int.toNat_natCast, tn100, tn200]
    rw [e8]
  · simp (disch := omega) only [bd_some, lm_e, if_pos, if_neg, up_ne, up_at, upf_same, upf_ne, reduceIte, or_true, true_or, Int.reduceToNat, Int.toNat_natCast, tn100, tn200]
    exact h4 j hj
  · simp (disch := omega) only [bd_some, lm_e, if_pos, if_neg, up_ne, up_at, upf_same, upf_ne, reduceIte, or_true, true_or, Int.reduceToNat, Int.toNat_natCast, tn100, tn200]
    exact (h5 j j1 j2).1
theorem e_addBorder_27 {κ : Mem} {B : Nat} {d : Int} (hk : B < 40) (h8 : κ 8 10 = (B : Int)) : ∀ (q n : Nat) (μ : Mem), q ≤ B → q < n → (∀ b, b ≠ 36 → μ b = κ b) → (∀ j, j < q → μ 36 j = κ 36 j) → (∀ j, q ≤ j → j < B → μ 36 (j + 1) = κ 36 j ∧ d < κ 36 j) → ∃ (p : Nat) (μ' : Mem), f_X8_addBorder_27 n d (q : Int) μ = some (0, μ') ∧ insB κ B d p μ'
  | 0, n + 1, μ, h1, h2, h3, h4, h5 => by
    obtain ⟨μ', q1, q2⟩ := insB_end hk h8 0 μ h1 (Or.inl rfl) h3 h4 h5
    refine ⟨0, μ', ?_, q2⟩
    rw [f_X8_addBorder_27_e, if_pos (by omega)]
    exact q1
  | q + 1, n + 1, μ, h1, h2, h3, h4, h5 => by
    have r1 := h4 q (by omega)
    rw [f_X8_addBorder_27_e]
    have hc : (((q + 1 : Nat) : Int) - 1).toNat = q := by omega
    have hc2 : (((q + 1 : Nat) : Int)).toNat = q + 1 := by omega
    have hc3 : ((q + 1 : Nat) : Int) + (-1) = (q : Int) := by omega
    by_cases c : κ 36 q ≤ d
    · obtain ⟨μ', q1, q2⟩ := insB_end hk h8 (q + 1) μ h1 (Or.inr c) h3 h4 h5
      refine ⟨q + 1, μ', ?_, q2⟩
      simp (disch := omega) only [hc, r1, bd_some, lm_e, if_pos, if_neg, up_ne, up_at, upf_same, upf_ne, reduceIte, or_true, true_or, Int.reduceToNat, Int.toNat_natCast, tn100, tn200]
      exact q1
    · obtain ⟨p, μ', q1, q2⟩ := e_addBorder_27 (κ := κ) (d := d) hk h8 q n (up μ 36 (q + 1) (κ 36 q)) (by omega) (by omega) (fun b b1 => by
        simp (disch := omega) only [bd_some, lm_e, if_pos, if_neg, up_ne, up_at, upf_same, upf_ne, reduceIte, or_true, true_or, Int.reduceToNat, Int.toNat_natCast, tn100, tn200]
        exact h3 b b1) (fun j hj => by
        simp (disch := omega) only [bd_some, lm_e, if_pos, if_neg, up_ne, up_at, upf_same, upf_ne, reduceIte, or_true, true_or, Int.reduceToNat, Int.toNat_natCast, tn100, tn200]
        exact h4 j (by omega)) (fun j j1 j2 => by
        by_cases e : j = q
        · subst e
          simp (disch := omega) only [bd_some, lm_e, if_pos, if_neg, up_ne, up_at, upf_same, upf_ne, reduceIte, or_true, true_or, Int.reduceToNat, Int.toNat_natCast, tn100, tn200]
          exact ⟨trivial, by omega⟩
        · simp (disch := omega) only [bd_some, lm_e, if_pos, if_neg, up_ne, up_at, upf_same, upf_ne, reduceIte, or_true, true_or, Int.reduceToNat, Int.toNat_natCast, tn100, tn200]
          exact h5 j (by omega) j2)
      refine ⟨p, μ', ?_, q2⟩
      simp (disch := omega) only [hc, hc2, hc3, r1, bd_some, lm_e, if_pos, if_neg, up_ne, up_at, upf_same, upf_ne, reduceIte, or_true, true_or, Int.reduceToNat, Int.toNat_natCast, tn100, tn200]
      exact q1
theorem insB_S {κ μ' : Mem} {B p : Nat} {P : Int → Prop} {d : Int} (h : bdS κ B P) (hB : B < 40) (hd : ¬ P d) (q : insB κ B d p μ') : bdS μ' (B + 1) (fun x => P x ∨ x = d) := by
  obtain ⟨h1, h2, h3, h4⟩ := h
  obtain ⟨p1, p2, p3, -, -, p6, p7, p8, p9⟩ := q
  have hne : ∀ j, j < B → κ 36 j ≠ d := fun j hj e => hd ((h4 d).mp ⟨j, hj, e⟩)
  have lo : ∀ j, j < p → κ 36 j < d := by
    intro j hj
    have hn := hne j (by omega)
    rcases p2 with e | e
    · omega
    · by_cases ej : j = p - 1
      · subst ej; omega
      · have := h3 j (p - 1) (by omega) (by omega)
        omega
  refine ⟨by omega, by omega, fun i j hij hj => ?_, fun x => ?_⟩
  · by_cases c1 : j < p
    · rw [p7 j c1, p7 i (by omega)]
      exact h3 i j hij (by omega)
    · by_cases c2 : j = p
      · rw [c2, p8, p7 i (by omega)]
        exact lo i (by omega)
      · obtain ⟨j, rfl⟩ : ∃ k, j = k + 1 := ⟨j - 1, by omega⟩
        rw [p9 j (by omega) (by omega)]
        by_cases c3 : i < p
        · rw [p7 i c3]
          have a := lo i c3
          have b := p3 j (by omega) (by omega)
          omega
        · by_cases c4 : i = p
          · rw [c4, p8]
            exact p3 j (by omega) (by omega)
          · obtain ⟨i, rfl⟩ : ∃ k, i = k + 1 := ⟨i - 1, by omega⟩
            rw [p9 i (by omega) (by omega)]
            exact h3 i j (by omega) (by omega)
  · show (∃ j, j < B + 1 ∧ μ' 36 j = x) ↔ (P x ∨ x = d)
    rw [← h4 x]
    constructor
    · rintro ⟨j, j1, j2⟩
      by_cases c1 : j < p
      · rw [p7 j c1] at j2
        exact Or.inl ⟨j, by omega, j2⟩
      · by_cases c2 : j = p
        · rw [c2, p8] at j2
          exact Or.inr j2.symm
        · obtain ⟨j, rfl⟩ : ∃ k, j = k + 1 := ⟨j - 1, by omega⟩
          rw [p9 j (by omega) (by omega)] at j2
          exact Or.inl ⟨j, by omega, j2⟩
    · rintro (⟨j, j1, j2⟩ | e)
      · by_cases c1 : j < p
        · exact ⟨j, by omega, by rw [p7 j c1]; exact j2⟩
        · exact ⟨j + 1, by omega, by rw [p9 j (by omega) j1]; exact j2⟩
      · exact ⟨p, by omega, by rw [p8]; exact e.symm⟩
def fB (μ μ' : Mem) : Prop := (∀ b, b ≠ 36 → b ≠ 8 → μ' b = μ b) ∧ (∀ j, j ≠ 10 → μ' 8 j = μ 8 j)
theorem fB_tr {a b c : Mem} (h : fB a b) (k : fB b c) : fB a c := ⟨fun x h1 h2 => (k.1 x h1 h2).trans (h.1 x h1 h2), fun j hj => (k.2 j hj).trans (h.2 j hj)⟩
theorem bdS_cong {μ : Mem} {B : Nat} {P Q : Int → Prop} (h : bdS μ B P) (k : ∀ d, P d ↔ Q d) : bdS μ B Q := ⟨h.1, h.2.1, h.2.2.1, fun d => (h.2.2.2 d).trans (k d)⟩
theorem e_addBorder {μ : Mem} {B : Nat} {P : Int → Prop} (d : Int) (h : bdS μ B P) (hB : B < 40) : ∃ μ' B', f_X8_addBorder μ d = some (0, μ') ∧ B' ≤ B + 1 ∧ bdS μ' B' (fun x => P x ∨ x = d) ∧ fB μ μ' := by
  unfold f_X8_addBorder
  by_cases c : P d
  · obtain ⟨j, j1, j2⟩ := (h.2.2.2 d).mpr c
    refine ⟨μ, B, ?_, by omega, bdS_cong h (fun x => ⟨Or.inl, fun y => y.elim id (fun e => by rw [e]; exact c)⟩), fun _ _ _ => rfl, fun _ _ => rfl⟩
    rw [b_at0 h j1 j2, bd_some, if_neg (by omega)]
  · obtain ⟨p, μ', q1, q2⟩ := e_addBorder_27 (κ := μ) (d := d) hB h.1 B 64 μ (Nat.le_refl B) (by omega) (fun _ _ => rfl) (fun _ _ => rfl) (fun j j1 j2 => by omega)
    refine ⟨μ', B + 1, ?_, Nat.le_refl _, insB_S h hB c q2, q2.2.2.2.1, q2.2.2.2.2.1⟩
    have h1 := h.1
    rw [b_no0 h c, bd_some, if_pos rfl, if_pos (by omega), h1, q1]
/-- the tallies of a gang that are in a mask, of the first v -/
def ourP (o : Nat → Prop) (f t : Nat → Int) (v : Nat) (d : Int) : Prop := ∃ i, i < v ∧ o i ∧ (d = f i ∨ d = t i + 1)
theorem ourP_no {o : Nat → Prop} {f t : Nat → Int} {v : Nat} (h : ¬ o v) (d : Int) : ourP o f t v d ↔ ourP o f t (v + 1) d := by
  constructor
  · rintro ⟨i, i1, i2⟩
    exact ⟨i, by omega, i2⟩
  · rintro ⟨i, i1, i2, i3⟩
    by_cases e : i = v
    · rw [e] at i2; exact absurd i2 h
    · exact ⟨i, by omega, i2, i3⟩
theorem ourP_yes {o : Nat → Prop} {f t : Nat → Int} {v : Nat} (h : o v) (d : Int) : ((ourP o f t v d ∨ d = f v) ∨ d = t v + 1) ↔ ourP o f t (v + 1) d := by
  constructor
  · rintro ((⟨i, i1, i2⟩ | e) | e)
    · exact ⟨i, by omega, i2⟩
    · exact ⟨v, by omega, h, Or.inl e⟩
    · exact ⟨v, by omega, h, Or.inr e⟩
  · rintro ⟨i, i1, i2, i3⟩
    by_cases e : i = v
    · rw [e] at i3
      rcases i3 with i3 | i3
      · exact Or.inl (Or.inr i3)
      · exact Or.inr i3
    · exact Or.inl (Or.inl ⟨i, by omega, i2, i3⟩)
def mskP (w : Int) (i : Nat) : Prop := w.toNat.testBit i = true
theorem msk_t {w : Int} {i : Nat} (h0 : 0 ≤ w) (h1 : w < 2147483648) (hi : i < 31) (h : mskP w i) : ¬ zand w (zshl 1 (i : Int)) = 0 := by
  intro e
  rw [zbit h0 h1 hi] at e
  unfold mskP at h
  rw [e] at h
  exact absurd h (by decide)
theorem msk_f {w : Int} {i : Nat} (h0 : 0 ≤ w) (h1 : w < 2147483648) (hi : i < 31) (h : ¬ mskP w i) : zand w (zshl 1 (i : Int)) = 0 := by
  rw [zbit h0 h1 hi]
  unfold mskP at h
  cases hx : w.toNat.testBit i with
  | false => rfl
  | true => exact absurd hx h
theorem msk_set {w : Int} {k : Nat} (h0 : 0 ≤ w) (h1 : w < 2147483648) (hk : k < 31) : 0 ≤ zor w (zshl 1 (k : Int)) ∧ zor w (zshl 1 (k : Int)) < 2147483648 ∧ ∀ i, mskP (zor w (zshl 1 (k : Int))) i ↔ mskP w i ∨ i = k := by
  obtain ⟨a, b, c⟩ := zset h0 h1 hk
  refine ⟨a, b, fun i => ?_⟩
  unfold mskP
  rw [c i, Bool.or_eq_true, decide_eq_true_eq]
  exact or_congr Iff.rfl eq_comm
section QC
variable {N : Nat} {w G : Int} {g f t c : Nat → Int}
/-- the class's tallies -/
def tlC (N : Nat) (g f t c : Nat → Int) (μ : Mem) : Prop := μ 8 5 = (N : Int) ∧ N ≤ 20 ∧ (∀ i, i < N → μ 32 i = g i ∧ μ 33 i = f i ∧ μ 34 i = t i ∧ μ 35 i = c i) ∧ (∀ i, i < N → 0 ≤ f i ∧ f i ≤ t i ∧ t i ≤ 3000 ∧ 0 ≤ c i ∧ c i ≤ 30)
theorem tlC_fr {μ μ' : Mem} (h : tlC N g f t c μ) (h5 : μ' 8 5 = μ 8 5) (h1 : μ' 32 = μ 32) (h2 : μ' 33 = μ 33) (h3 : μ' 34 = μ 34) (h4 : μ' 35 = μ 35) : tlC N g f t c μ' := by
  unfold tlC
  rw [h5, h1, h2, h3, h4]
  exact h
theorem tlC_B {μ μ' : Mem} (h : tlC N g f t c μ) (k : fB μ μ') : tlC N g f t c μ' := tlC_fr h (k.2 5 (by decide)) (k.1 32 (by decide) (by decide)) (k.1 33 (by decide) (by decide)) (k.1 34 (by decide) (by decide)) (k.1 35 (by decide) (by decide))
theorem e_ours (hw : 0 ≤ w ∧ w < 2147483648) : ∀ (e n v B : Nat) (u : Int) (μ : Mem), v + e = N → e < n → tlC N g f t c μ → bdS μ B (ourP (fun i => mskP w i ∧ g i = G) f t v) → B ≤ 2 * v → (0 ≤ u ∧ u < 2147483648) → (∀ i, mskP u i ↔ i < v ∧ mskP w i ∧ g i = G) → ∃ (μ' : Mem) (B' : Nat) (u' : Int), f_X8_agreeOnGang_10 n w G u (v : Int) μ = bd (f_X8_findBorders μ' u') (fun _ μ3 => f_X8_agreeOnGang_84 64 u' 0 μ3) ∧ bdS μ' B' (ourP (fun i => mskP w i ∧ g i = G) f t N) ∧ (0 ≤ u' ∧ u' < 2147483648) ∧ (∀ i, mskP u' i ↔ i < N ∧ mskP w i ∧ g i = G) ∧ fB μ μ'
  | 0, n + 1, v, B, u, μ, h1, h2, h3, h4, h5, h6, h7 => by
    refine ⟨μ, B, u, ?_, by rw [show N = v by omega]; exact h4, h6, by rw [show N = v by omega]; exact h7, fun _ _ _ => rfl, fun _ _ => rfl⟩
    have := h3.1
    rw [f_X8_agreeOnGang_10_e, if_pos (by omega)]
  | e + 1, n + 1, v, B, u, μ, h1, h2, h3, h4, h5, h6, h7 => by
    have hN := h3.1
    have hN2 := h3.2.1
    obtain ⟨r1, r2, r3, r4⟩ := h3.2.2.1 v (by omega)
    have hb := h3.2.2.2 v (by omega)
    rw [f_X8_agreeOnGang_10_e, if_neg (by omega)]
    by_cases o : mskP w v ∧ g v = G
    · obtain ⟨μ1, B1, k1, k2, k3, k4⟩ := e_addBorder (f v) h4 (by omega)
      have r34 : μ1 34 v = t v := by rw [k4.1 34 (by decide) (by decide)]; exact r3
      obtain ⟨μ2, B2, l1, l2, l3, l4⟩ := e_addBorder (t v + 1) k3 (by omega)
      obtain ⟨s1, s2, s3⟩ := msk_set h6.1 h6.2 (show v < 31 by omega)
      obtain ⟨μ', B', u', q1, q2, q3, q4, q5⟩ := e_ours hw e n (v + 1) B2 (zor u (zshl 1 (v : Int))) μ2 (by omega) (by omega) (tlC_B (tlC_B h3 k4) l4) (bdS_cong l3 (fun d => ourP_yes o d)) (by omega) ⟨s1, s2⟩ (fun i => by
        rw [s3 i, h7 i]
        constructor
        · rintro (⟨x1, x2⟩ | x)
          · exact ⟨by omega, x2⟩
          · rw [x]; exact ⟨by omega, o⟩
        · rintro ⟨x1, x2⟩
          by_cases ei : i = v
          · exact Or.inr ei
          · exact Or.inl ⟨by omega, x2⟩)
      refine ⟨μ', B', u', ?_, q2, q3, q4, fB_tr k4 (fB_tr l4 q5)⟩
      rw [if_neg (msk_t hw.1 hw.2 (by omega) o.1), if_pos (by omega), Int.toNat_natCast, r1, if_pos o.2, r2, k1, bd_some, r34, if_pos (by omega), l1, bd_some, if_pos (by omega), show (v : Int) + 1 = ((v + 1 : Nat) : Int) by omega, q1]
    · obtain ⟨μ', B', u', q1, q2⟩ := e_ours hw e n (v + 1) B u μ (by omega) (by omega) h3 (bdS_cong h4 (fun d => ourP_no o d)) (by omega) h6 (fun i => by
        rw [h7 i]
        constructor
        · rintro ⟨x1, x2⟩
          exact ⟨by omega, x2⟩
        · rintro ⟨x1, x2⟩
          by_cases ei : i = v
          · rw [ei] at x2; exact absurd x2 o
          · exact ⟨by omega, x2⟩)
      refine ⟨μ', B', u', ?_, q2⟩
      by_cases o1 : mskP w v
      · rw [if_neg (msk_t hw.1 hw.2 (by omega) o1), if_pos (by omega), Int.toNat_natCast, r1, if_neg (fun x => o ⟨o1, x⟩), if_pos (by omega), show (v : Int) + 1 = ((v + 1 : Nat) : Int) by omega, q1]
      · rw [if_pos (msk_f hw.1 hw.2 (by omega) o1), if_pos (by omega), show (v : Int) + 1 = ((v + 1 : Nat) : Int) by omega, q1]
/-- where each tally of ours begins and ends -/
def ixC (o : Nat → Prop) (B : Nat) (f t : Nat → Int) (μ : Mem) (v : Nat) : Prop := ∀ i, i < v → o i → (0 ≤ μ 38 i ∧ μ 38 i < (B : Int) ∧ μ 36 (μ 38 i).toNat = f i) ∧ (0 ≤ μ 39 i ∧ μ 39 i < (B : Int) ∧ μ 36 (μ 39 i).toNat = t i + 1)
def fI (μ μ' : Mem) : Prop := ∀ b, b ≠ 37 → b ≠ 38 → b ≠ 39 → μ' b = μ b
theorem e_find {u : Int} (hu : 0 ≤ u ∧ u < 2147483648) {B : Nat} {P : Int → Prop} (hP : ∀ i, i < N → mskP u i → P (f i) ∧ P (t i + 1)) : ∀ (e n v : Nat) (μ : Mem), v + e = N → e < n → tlC N g f t c μ → bdS μ B P → ixC (mskP u) B f t μ v → ∃ μ', f_X8_findBorders_25 n u (v : Int) μ = some (0, μ') ∧ ixC (mskP u) B f t μ' N ∧ (∀ b, b ≠ 38 → b ≠ 39 → μ' b = μ b)
  | 0, n + 1, v, μ, h1, h2, h3, h4, h5 => by
    refine ⟨μ, ?_, by rw [show N = v by omega]; exact h5, fun _ _ _ => rfl⟩
    have := h3.1
    rw [f_X8_findBorders_25_e, if_pos (by omega)]
  | e + 1, n + 1, v, μ, h1, h2, h3, h4, h5 => by
    have hN := h3.1
    have hN2 := h3.2.1
    obtain ⟨r1, r2, r3, r4⟩ := h3.2.2.1 v (by omega)
    have hb := h3.2.2.2 v (by omega)
    rw [f_X8_findBorders_25_e, if_neg (by omega)]
    by_cases o : mskP u v
    · obtain ⟨p1, p2⟩ := hP v (by omega) o
      obtain ⟨j1, a1, a2⟩ := (h4.2.2.2 (f v)).mpr p1
      obtain ⟨j2, b1, b2⟩ := (h4.2.2.2 (t v + 1)).mpr p2
      have x1 := b_at0 h4 a1 a2
      have h4' : bdS (up μ 38 v (j1 : Int)) B P := by
        unfold bdS
        simp (disch := omega) only [bd_some, lm_e, if_pos, if_neg, up_ne, up_at, upf_same, upf_ne, reduceIte, or_true, true_or, Int.reduceToNat, Int.toNat_natCast, tn100, tn200]
        exact h4
      have x2 := b_at0 h4' (j := j2) (d := t v + 1) b1 (by simp (disch := omega) only [bd_some, lm_e, if_pos, if_neg, up_ne, up_at, upf_same, upf_ne, reduceIte, or_true, true_or, Int.reduceToNat, Int.toNat_natCast, tn100, tn200]; exact b2)
      obtain ⟨μ', q1, q2, q3⟩ := e_find hu hP e n (v + 1) (up (up μ 38 v (j1 : Int)) 39 v (j2 : Int)) (by omega) (by omega) (tlC_fr h3 (by simp (disch := omega) only [bd_some, lm_e, if_pos, if_neg, up_ne, up_at, upf_same, upf_ne, reduceIte, or_true, true_or, Int.reduceToNat, Int.toNat_natCast, tn100, tn200]) (by simp (disch := omega) only [bd_some, lm_e, if_pos, if_neg, up_ne, up_at, upf_same, upf_ne, reduceIte, or_true, true_or, Int.reduceToNat, Int.toNat_natCast, tn100, tn200]) (by simp (disch := omega) only [bd_some, lm_e, if_pos, if_neg, up_ne, up_at, upf_same, upf_ne, reduceIte, or_true, true_or, Int.reduceToNat, Int.toNat_natCast, tn100, tn200]) (by simp (disch := omega) only [bd_some, lm_e, if_pos, if_neg, up_ne, up_at, upf_same, upf_ne, reduceIte, or_true, true_or, Int.reduceToNat, Int.toNat_natCast, tn100, tn200]) (by simp (disch := omega) only [bd_some, lm_e, if_pos, if_neg, up_ne, up_at, upf_same, upf_ne, reduceIte, or_true, true_or, Int.reduceToNat, Int.toNat_natCast, tn100, tn200])) (by unfold bdS; simp (disch := omega) only [bd_some, lm_e, if_pos, if_neg, up_ne, up_at, upf_same, upf_ne, reduceIte, or_true, true_or, Int.reduceToNat, Int.toNat_natCast, tn100, tn200]; exact h4) (fun i i1 i2 => by
        by_cases ei : i = v
        · subst ei
          simp (disch := omega) only [bd_some, lm_e, if_pos, if_neg, up_ne, up_at, upf_same, upf_ne, reduceIte, or_true, true_or, Int.reduceToNat, Int.toNat_natCast, tn100, tn200]
          exact ⟨⟨by omega, by omega, a2⟩, ⟨by omega, by omega, b2⟩⟩
        · simp (disch := omega) only [bd_some, lm_e, if_pos, if_neg, up_ne, up_at, upf_same, upf_ne, reduceIte, or_true, true_or, Int.reduceToNat, Int.toNat_natCast, tn100, tn200]
          exact h5 i (by omega) i2)
      refine ⟨μ', ?_, q2, fun b c1 c2 => by rw [q3 b c1 c2]; simp (disch := omega) only [bd_some, lm_e, if_pos, if_neg, up_ne, up_at, upf_same, upf_ne, reduceIte, or_true, true_or, Int.reduceToNat, Int.toNat_natCast, tn100, tn200]⟩
      have m1 : ∀ m : Mem, f_J9_max_7cf53 m 0 (j1 : Int) = some ((j1 : Int), m) := fun m => by
        unfold f_J9_max_7cf53
        by_cases z : (0 : Int) < (j1 : Int)
        · rw [if_pos z]
        · rw [if_neg z, show (j1 : Int) = 0 by omega]
      have m2 : ∀ m : Mem, f_J9_max_7cf53 m 0 (j2 : Int) = some ((j2 : Int), m) := fun m => by
        unfold f_J9_max_7cf53
        by_cases z : (0 : Int) < (j2 : Int)
        · rw [if_pos z]
        · rw [if_neg z, show (j2 : Int) = 0 by omega]
      rw [if_neg (msk_t hu.1 hu.2 (by omega) o), if_pos (by omega), Int.toNat_natCast, r2, x1, bd_some, m1, bd_some, lm_e, show up μ 38 v (j1 : Int) 34 v = t v by simp (disch := omega) only [bd_some, lm_e, if_pos, if_neg, up_ne, up_at, upf_same, upf_ne, reduceIte, or_true, true_or, Int.reduceToNat, Int.toNat_natCast, tn100, tn200]; exact r3, if_pos (by omega), x2, bd_some, m2, bd_some, lm_e, if_pos (by omega), show (v : Int) + 1 = ((v + 1 : Nat) : Int) by omega, q1]
    · obtain ⟨μ', q1, q2⟩ := e_find hu hP e n (v + 1) μ (by omega) (by omega) h3 h4 (fun i i1 i2 => by
        by_cases ei : i = v
        · rw [ei] at i2; exact absurd i2 o
        · exact h5 i (by omega) i2)
      refine ⟨μ', ?_, q2⟩
      rw [if_pos (msk_f hu.1 hu.2 (by omega) o), if_pos (by omega), show (v : Int) + 1 = ((v + 1 : Nat) : Int) by omega, q1]
theorem e_zero {u : Int} {B : Nat} (hB : B ≤ 40) : ∀ (e n v : Nat) (μ : Mem), v + e = B → e < n → μ 8 10 = (B : Int) → ∃ μ', f_X8_findBorders_2 n u (v : Int) μ = f_X8_findBorders_25 64 u 0 μ' ∧ (∀ b, b ≠ 37 → μ' b = μ b) ∧ (∀ i, i < v → μ' 37 i = μ 37 i) ∧ (∀ i, v ≤ i → i < B → μ' 37 i = 0)
  | 0, n + 1, v, μ, h1, h2, h3 => by
    refine ⟨μ, ?_, fun _ _ => rfl, fun _ _ => rfl, fun i i1 i2 => by omega⟩
    rw [f_X8_findBorders_2_e, if_pos (by omega)]
  | e + 1, n + 1, v, μ, h1, h2, h3 => by
    obtain ⟨μ', q1, q2, q3, q4⟩ := e_zero (u := u) hB e n (v + 1) (up μ 37 v 0) (by omega) (by omega) (by simp (disch := omega) only [bd_some, lm_e, if_pos, if_neg, up_ne, up_at, upf_same, upf_ne, reduceIte, or_true, true_or, Int.reduceToNat, Int.toNat_natCast, tn100, tn200]; exact h3)
    refine ⟨μ', ?_, fun b hb => by rw [q2 b hb]; simp (disch := omega) only [bd_some, lm_e, if_pos, if_neg, up_ne, up_at, upf_same, upf_ne, reduceIte, or_true, true_or, Int.reduceToNat, Int.toNat_natCast, tn100, tn200], fun i hi => by rw [q3 i (by omega)]; simp (disch := omega) only [bd_some, lm_e, if_pos, if_neg, up_ne, up_at, upf_same, upf_ne, reduceIte, or_true, true_or, Int.reduceToNat, Int.toNat_natCast, tn100, tn200], fun i i1 i2 => ?_⟩
    · rw [f_X8_findBorders_2_e, if_neg (by omega), if_pos (by omega), lm_e, if_pos (by omega), Int.toNat_natCast, show (v : Int) + 1 = ((v + 1 : Nat) : Int) by omega, q1]
    · by_cases ei : i = v
      · subst ei
        rw [q3 i (by omega)]
        simp (disch := omega) only [bd_some, lm_e, if_pos, if_neg, up_ne, up_at, upf_same, upf_ne, reduceIte, or_true, true_or, Int.reduceToNat, Int.toNat_natCast, tn100, tn200]
      · exact q4 i (by omega) i2
end QC
