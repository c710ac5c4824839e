/-! QUARREL, the reference: points, the ways between them -/
def ptS (ν : Mem) (B : Nat) (P : Int → Prop) : Prop := ν 300 51 = (B : Int) ∧ B ≤ 40 ∧ (∀ i j, i < j → j < B → ν 336 i ≠ ν 336 j) ∧ ∀ d : Int, (∃ j, j < B ∧ ν 336 j = d) ↔ P d
theorem ptS_cong {μ : Mem} {B : Nat} {P Q : Int → Prop} (h : ptS μ B P) (k : ∀ d, P d ↔ Q d) : ptS μ B Q := ⟨h.1, h.2.1, h.2.2.1, fun d => (h.2.2.2 d).trans (k d)⟩
theorem p_at {ν : Mem} {B j : Nat} {d : Int} (h1 : ν 300 51 = (B : Int)) (h2 : B ≤ 40) (h3 : ∀ i j, i < j → j < B → ν 336 i ≠ ν 336 j) (hj : j < B) (hd : ν 336 j = d) : ∀ (e n v : Nat), v + e = j → e < n → f_X11_pointOf_2 n d (v : Int) ν = some ((j : Int), ν)
  | 0, n + 1, v, q1, q2 => by
    rw [f_X11_pointOf_2_e, if_neg (by omega), if_pos (by omega), Int.toNat_natCast, show v = j by omega, if_pos hd]
  | e + 1, n + 1, v, q1, q2 => by
    have ih := p_at h1 h2 h3 hj hd e n (v + 1) (by omega) (by omega)
    have hlt := h3 v j (by omega) hj
    rw [f_X11_pointOf_2_e, if_neg (by omega), if_pos (by omega), Int.toNat_natCast, if_neg (by rw [← hd]; exact hlt), if_pos (by omega), show (v : Int) + 1 = ((v + 1 : Nat) : Int) by omega, ih]
theorem p_no {ν : Mem} {B : Nat} {d : Int} (h1 : ν 300 51 = (B : Int)) (h2 : B < 40) (hd : ∀ j, j < B → ν 336 j ≠ d) : ∀ (e n v : Nat), v + e = B → e < n → f_X11_pointOf_2 n d (v : Int) ν = some ((B : Int), up (up ν 336 B d) 300 51 ((B : Int) + 1))
  | 0, n + 1, v, q1, q2 => by
    rw [f_X11_pointOf_2_e, if_pos (by omega), if_pos (by omega), h1, Int.toNat_natCast, lm_e]
    simp (disch := omega) only [h1, bd_some, lm_e, if_pos, if_neg, up_ne, up_at, upf_same, upf_ne, reduceIte, or_true, true_or, Int.reduceToNat, Int.toNat_natCast, tn100, tn200]
    rw [show (B : Int) + 1 - 1 = (B : Int) by omega]
  | e + 1, n + 1, v, q1, q2 => by
    have ih := p_no h1 h2 hd e n (v + 1) (by omega) (by omega)
    have hne := hd v (by omega)
    rw [f_X11_pointOf_2_e, if_neg (by omega), if_pos (by omega), Int.toNat_natCast, if_neg hne, if_pos (by omega), show (v : Int) + 1 = ((v + 1 : Nat) : Int) by omega, ih]
theorem p_at0 {ν : Mem} {B j : Nat} {P : Int → Prop} {d : Int} (h : ptS ν B P) (hj : j < B) (hd : ν 336 j = d) : f_X11_pointOf ν d = some ((j : Int), ν) := by
  have := p_at h.1 h.2.1 h.2.2.1 hj hd j 64 0 (by omega) (by have := h.2.1; omega)
  rw [show ((0 : Nat) : Int) = 0 from rfl] at this
  exact this
def fP (ν ν' : Mem) : Prop := (∀ b, b ≠ 336 → b ≠ 300 → ν' b = ν b) ∧ (∀ j, j ≠ 51 → ν' 300 j = ν 300 j)
theorem fP_tr {a b c : Mem} (h : fP a b) (k : fP b c) : fP a c := ⟨fun x h1 h2 => (k.1 x h1 h2).trans (h.1 x h1 h2), fun j hj => (k.2 j hj).trans (h.2 j hj)⟩
theorem e_pointOf {ν : Mem} {B : Nat} {P : Int → Prop} (d : Int) (h : ptS ν B P) (hB : B < 40) : ∃ r ν' B', f_X11_pointOf ν d = some (r, ν') ∧ B' ≤ B + 1 ∧ ptS ν' B' (fun x => P x ∨ x = d) ∧ fP ν ν' := by
  by_cases c : P d
  · obtain ⟨j, j1, j2⟩ := (h.2.2.2 d).mpr c
    exact ⟨_, ν, B, p_at0 h j1 j2, by omega, ptS_cong h (fun x => ⟨Or.inl, fun y => y.elim id (fun e => by rw [e]; exact c)⟩), fun _ _ _ => rfl, fun _ _ => rfl⟩
  · have hne : ∀ j, j < B → ν 336 j ≠ d := fun j hj e => c ((h.2.2.2 d).mp ⟨j, hj, e⟩)
    have q := p_no h.1 hB hne B 64 0 (by omega) (by omega)
    rw [show ((0 : Nat) : Int) = 0 from rfl] at q
    refine ⟨_, _, B + 1, q, Nat.le_refl _, ⟨by simp (disch := omega) only [bd_some, lm_e, if_pos, if_neg, up_ne, up_at, upf_same, upf_ne, reduceIte, or_true, true_or, Int.reduceToNat, Int.toNat_natCast, tn100, tn200]; omega, by omega, fun i j hij hj => ?_, fun x => ?_⟩, fun b b1 b2 => by simp (disch := omega) only [bd_some, lm_e, if_pos, if_neg, up_ne, up_at, upf_same, upf_ne, reduceIte, or_true, true_or, Int.reduceToNat, Int.toNat_natCast, tn100, tn200], fun j hj => by simp (disch := omega) only [bd_some, lm_e, if_pos, if_neg, up_ne, up_at, upf_same, upf_ne, reduceIte, or_true, true_or, Int.reduceToNat, Int.toNat_natCast, tn100, tn200]⟩
    · by_cases e : j = B
      · subst e
        simp (disch := omega) only [bd_some, lm_e, if_pos, if_neg, up_ne, up_at, upf_same, upf_ne, reduceIte, or_true, true_or, Int.reduceToNat, Int.toNat_natCast, tn100, tn200]
        exact hne i hij
      · simp (disch := omega) only [bd_some, lm_e, if_pos, if_neg, up_ne, up_at, upf_same, upf_ne, reduceIte, or_true, true_or, Int.reduceToNat, Int.toNat_natCast, tn100, tn200]
        exact h.2.2.1 i j hij (by omega)
    · show (∃ j, j < B + 1 ∧ up (up ν 336 B d) 300 51 ((B : Int) + 1) 336 j = x) ↔ (P x ∨ x = d)
      rw [← h.2.2.2 x]
      constructor
      · rintro ⟨j, j1, j2⟩
        by_cases e : j = B
        · subst e
          simp (disch := omega) only [bd_some, lm_e, if_pos, if_neg, up_ne, up_at, upf_same, upf_ne, reduceIte, or_true, true_or, Int.reduceToNat, Int.toNat_natCast, tn100, tn200] at j2
          exact Or.inr j2.symm
        · simp (disch := omega) only [bd_some, lm_e, if_pos, if_neg, up_ne, up_at, upf_same, upf_ne, reduceIte, or_true, true_or, Int.reduceToNat, Int.toNat_natCast, tn100, tn200] at j2
          exact Or.inl ⟨j, by omega, j2⟩
      · rintro (⟨j, j1, j2⟩ | e)
        · refine ⟨j, by omega, ?_⟩
          simp (disch := omega) only [bd_some, lm_e, if_pos, if_neg, up_ne, up_at, upf_same, upf_ne, reduceIte, or_true, true_or, Int.reduceToNat, Int.toNat_natCast, tn100, tn200]
          exact j2
        · refine ⟨B, by omega, ?_⟩
          simp (disch := omega) only [bd_some, lm_e, if_pos, if_neg, up_ne, up_at, upf_same, upf_ne, reduceIte, or_true, true_or, Int.reduceToNat, Int.toNat_natCast, tn100, tn200]
          exact e.symm
section QR
variable {N : Nat} {g f t c : Nat → Int} {M : Nat → Prop} {G : Int}
def tlR (N : Nat) (g f t c : Nat → Int) (M : Nat → Prop) (ν : Mem) : Prop := ν 300 45 = (N : Int) ∧ N ≤ 20 ∧ (∀ i, i < N → ν 331 i = g i ∧ ν 332 i = f i ∧ ν 333 i = t i ∧ ν 334 i = c i) ∧ (∀ i, i < N → 0 ≤ f i ∧ f i ≤ t i ∧ t i ≤ 3000 ∧ 0 ≤ c i ∧ c i ≤ 30) ∧ (∀ i, i < N → (M i ↔ ν 335 i ≠ 0))
theorem tlR_fr {ν ν' : Mem} (h : tlR N g f t c M ν) (h5 : ν' 300 45 = ν 300 45) (h1 : ν' 331 = ν 331) (h2 : ν' 332 = ν 332) (h3 : ν' 333 = ν 333) (h4 : ν' 334 = ν 334) (h6 : ν' 335 = ν 335) : tlR N g f t c M ν' := by
  unfold tlR
  rw [h5, h1, h2, h3, h4, h6]
  exact h
theorem tlR_P {ν ν' : Mem} (h : tlR N g f t c M ν) (k : fP ν ν') : tlR N g f t c M ν' := tlR_fr h (k.2 45 (by decide)) (k.1 331 (by decide) (by decide)) (k.1 332 (by decide) (by decide)) (k.1 333 (by decide) (by decide)) (k.1 334 (by decide) (by decide)) (k.1 335 (by decide) (by decide))
theorem r_points : ∀ (e n v B : Nat) (ν : Mem), v + e = N → e < n → tlR N g f t c M ν → ptS ν B (ourP (fun i => M i ∧ g i = G) f t v) → B ≤ 2 * v → ∃ (ν' : Mem) (B' : Nat), f_X11_canBe_7 n G (v : Int) ν = f_X11_canBe_66 64 G 0 ν' ∧ ptS ν' B' (ourP (fun i => M i ∧ g i = G) f t N) ∧ fP ν ν'
  | 0, n + 1, v, B, ν, h1, h2, h3, h4, h5 => by
    refine ⟨ν, B, ?_, by rw [show N = v by omega]; exact h4, fun _ _ _ => rfl, fun _ _ => rfl⟩
    have := h3.1
    rw [f_X11_canBe_7_e, if_pos (by omega)]
  | e + 1, n + 1, v, B, ν, h1, h2, h3, h4, h5 => by
    have hN := h3.1
    have hN2 := h3.2.1
    obtain ⟨r1, r2, r3, r4⟩ := h3.2.2.1 v (by omega)
    have hb := h3.2.2.2.1 v (by omega)
    have hM := h3.2.2.2.2 v (by omega)
    rw [f_X11_canBe_7_e, if_neg (by omega), if_pos (by omega), Int.toNat_natCast]
    by_cases o : M v ∧ g v = G
    · obtain ⟨x1, ν1, B1, k1, k2, k3, k4⟩ := e_pointOf (f v) h4 (by omega)
      have r34 : ν1 333 v = t v := by rw [k4.1 333 (by decide) (by decide)]; exact r3
      obtain ⟨x2, ν2, B2, l1, l2, l3, l4⟩ := e_pointOf (t v + 1) k3 (by omega)
      obtain ⟨ν', B', q1, q2, q3⟩ := r_points e n (v + 1) B2 ν2 (by omega) (by omega) (tlR_P (tlR_P h3 k4) l4) (ptS_cong l3 (fun d => ourP_yes o d)) (by omega)
      refine ⟨ν', B', ?_, q2, fP_tr k4 (fP_tr l4 q3)⟩
      rw [if_neg (hM.mp o.1), r1, if_pos o.2, r2, k1, bd_some, r34, if_pos (by omega), l1, bd_some, if_pos (by omega), show (v : Int) + 1 = ((v + 1 : Nat) : Int) by omega, q1]
    · obtain ⟨ν', B', q1, q2⟩ := r_points e n (v + 1) B ν (by omega) (by omega) h3 (ptS_cong h4 (fun d => ourP_no o d)) (by omega)
      refine ⟨ν', B', ?_, q2⟩
      by_cases o1 : M v
      · rw [if_neg (hM.mp o1), r1, if_neg (fun x => o ⟨o1, x⟩), if_pos (by omega), show (v : Int) + 1 = ((v + 1 : Nat) : Int) by omega, q1]
      · have h0 : ν 335 v = 0 := by
          by_cases z : ν 335 v = 0
          · exact z
          · exact absurd (hM.mpr z) o1
        rw [if_pos h0, if_pos (by omega), show (v : Int) + 1 = ((v + 1 : Nat) : Int) by omega, q1]
/-- the ways -/
def DD (ν : Mem) (a b : Nat) : Int := ν (338 + a) b
theorem tn338 (n : Nat) : (338 + (n : Int)).toNat = 338 + n := by omega
def fD (ν ν' : Mem) : Prop := ∀ b, ¬ (338 ≤ b ∧ b < 378) → ν' b = ν b
theorem fD_tr {a b c : Mem} (h : fD a b) (k : fD b c) : fD a c := fun x hx => (k x hx).trans (h x hx)
def D0 (p : Nat → Int) (a b : Nat) : Int := if p b ≤ p a then 0 else 268435456
theorem r_init1 {k66 : Int → Int → Mem → Option (Int × Mem)} {B a : Nat} (hB : B ≤ 40) (ha : a < B) : ∀ (e n b : Nat) (ν : Mem), b + e = B → e < n → ν 300 51 = (B : Int) → ∃ ν', f_X11_canBe_76 k66 n G (a : Int) (b : Int) ν = k66 G ((a : Int) + 1) ν' ∧ (∀ x, x ≠ 338 + a → ν' x = ν x) ∧ (∀ j, j < b → ν' (338 + a) j = ν (338 + a) j) ∧ (∀ j, b ≤ j → j < B → ν' (338 + a) j = D0 (ν 336) a j)
  | 0, n + 1, b, ν, h1, h2, h3 => by
    refine ⟨ν, ?_, fun _ _ => rfl, fun _ _ => rfl, fun j j1 j2 => by omega⟩
    rw [f_X11_canBe_76_e, if_pos (by omega), if_pos (by omega)]
  | e + 1, n + 1, b, ν, h1, h2, h3 => by
    rw [f_X11_canBe_76_e, if_neg (by omega), if_pos (by omega), if_pos (by omega)]
    simp only [Int.toNat_natCast, tn338]
    have go : ∀ z : Int, z = D0 (ν 336) a b → ∃ ν', f_X11_canBe_76 k66 n G (a : Int) ((b : Int) + 1) (up ν (338 + a) b z) = k66 G ((a : Int) + 1) ν' ∧ (∀ x, x ≠ 338 + a → ν' x = ν x) ∧ (∀ j, j < b → ν' (338 + a) j = ν (338 + a) j) ∧ (∀ j, b ≤ j → j < B → ν' (338 + a) j = D0 (ν 336) a j) := by
      intro z hz
      obtain ⟨ν', q1, q2, q3, q4⟩ := r_init1 (k66 := k66) hB ha e n (b + 1) (up ν (338 + a) b z) (by omega) (by omega) (by simp (disch := omega) only [bd_some, lm_e, if_pos, if_neg, up_ne, up_at, upf_same, upf_ne, reduceIte, or_true, true_or, Int.reduceToNat, Int.toNat_natCast, tn100, tn200]; exact h3)
      rw [show ((b + 1 : Nat) : Int) = (b : Int) + 1 by omega] at q1
      refine ⟨ν', q1, fun x hx => by rw [q2 x hx]; simp (disch := omega) only [bd_some, lm_e, if_pos, if_neg, up_ne, up_at, upf_same, upf_ne, reduceIte, or_true, true_or, Int.reduceToNat, Int.toNat_natCast, tn100, tn200], fun j hj => by rw [q3 j (by omega)]; simp (disch := omega) only [bd_some, lm_e, if_pos, if_neg, up_ne, up_at, upf_same, upf_ne, reduceIte, or_true, true_or, Int.reduceToNat, Int.toNat_natCast, tn100, tn200], fun j j1 j2 => ?_⟩
      by_cases ej : j = b
      · subst ej
        rw [q3 j (by omega)]
        simp (disch := omega) only [bd_some, lm_e, if_pos, if_neg, up_ne, up_at, upf_same, upf_ne, reduceIte, or_true, true_or, Int.reduceToNat, Int.toNat_natCast, tn100, tn200]
        exact hz
      · rw [q4 j (by omega) j2]
        simp (disch := omega) only [bd_some, lm_e, if_pos, if_neg, up_ne, up_at, upf_same, upf_ne, reduceIte, or_true, true_or, Int.reduceToNat, Int.toNat_natCast, tn100, tn200]
    by_cases c1 : ν 336 a < ν 336 b
    · obtain ⟨ν', q1, q2⟩ := go 268435456 (by unfold D0; rw [if_neg (by omega)])
      refine ⟨ν', ?_, q2⟩
      rw [if_pos c1, lm_e, if_pos (by omega), q1]
    · obtain ⟨ν', q1, q2⟩ := go 0 (by unfold D0; rw [if_pos (by omega)])
      refine ⟨ν', ?_, q2⟩
      rw [if_neg c1, lm_e, if_pos (by omega), q1]
theorem r_init {B : Nat} (hB : B ≤ 40) : ∀ (e n a : Nat) (ν : Mem), a + e = B → e < n → ν 300 51 = (B : Int) → ∃ ν', f_X11_canBe_66 n G (a : Int) ν = f_X11_canBe_128 64 G 0 ν' ∧ fD ν ν' ∧ (∀ i j, i < a → j < B → DD ν' i j = DD ν i j) ∧ (∀ i j, a ≤ i → i < B → j < B → DD ν' i j = D0 (ν 336) i j)
  | 0, n + 1, a, ν, h1, h2, h3 => by
    refine ⟨ν, ?_, fun _ _ => rfl, fun _ _ _ _ => rfl, fun i j j1 j2 => by omega⟩
    rw [f_X11_canBe_66_e, if_pos (by omega)]
  | e + 1, n + 1, a, ν, h1, h2, h3 => by
    obtain ⟨ν1, q1, q2, -, q4⟩ := r_init1 (G := G) (k66 := f_X11_canBe_66 n) (B := B) (a := a) hB (by omega) B 64 0 ν (by omega) (by omega) h3
    rw [show ((0 : Nat) : Int) = 0 from rfl] at q1
    obtain ⟨ν', w1, w2, w3, w4⟩ := r_init hB e n (a + 1) ν1 (by omega) (by omega) (by rw [q2 300 (by omega)]; exact h3)
    refine ⟨ν', ?_, fun b hb => by rw [w2 b hb, q2 b (by omega)], fun i j hi hj => ?_, fun i j i1 i2 hj => ?_⟩
    · rw [f_X11_canBe_66_e, if_neg (by omega), q1, show (a : Int) + 1 = ((a + 1 : Nat) : Int) by omega, w1]
    · rw [w3 i j (by omega) hj]
      unfold DD
      rw [q2 (338 + i) (by omega)]
    · by_cases ei : i = a
      · subst ei
        rw [w3 i j (by omega) hj]
        exact q4 j (by omega) hj
      · rw [w4 i j (by omega) i2 hj, q2 336 (by omega)]
/-- the tallies come in -/
def tD (B : Nat) (D : Nat → Nat → Int) : Prop := (∀ a, a < B → D a a = 0) ∧ ∀ a b, a < B → b < B → D a b = 268435456 ∨ (-30 ≤ D a b ∧ D a b ≤ 30)
def okP (B : Nat) (p f t c : Nat → Int) (o : Nat → Prop) (v : Nat) (y : Nat → Int) : Prop := (∀ a b, a < B → b < B → p b ≤ p a → y b ≤ y a) ∧ ∀ i, i < v → o i → ∀ a b, a < B → b < B → p a = f i → p b = t i + 1 → y b - y a = c i
theorem FWs_min {B : Nat} {D D' : Nat → Nat → Int} {a b : Nat} {z : Int} (ha : a < B) (hb : b < B) (hD : ∀ i j, i < B → j < B → ¬ (i = a ∧ j = b) → D' i j = D i j) (hz : z ≤ 30) (hm : (z ≤ D a b ∧ D' a b = z) ∨ (D a b < z ∧ D' a b = D a b)) (y : Nat → Int) : FWs B D' y ↔ FWs B D y ∧ y b - y a ≤ z := by
  constructor
  · intro h
    have h1 := h a b ha hb (by omega)
    refine ⟨fun i j hi hj hf => ?_, by omega⟩
    by_cases e : i = a ∧ j = b
    · rw [e.1, e.2]
      omega
    · have := h i j hi hj (by rw [hD i j hi hj e]; exact hf)
      rw [hD i j hi hj e] at this
      exact this
  · rintro ⟨h1, h2⟩ i j hi hj hf
    by_cases e : i = a ∧ j = b
    · rw [e.1, e.2] at hf ⊢
      rcases hm with ⟨m1, m2⟩ | ⟨m1, m2⟩
      · omega
      · have := h1 a b ha hb (by omega)
        omega
    · rw [hD i j hi hj e] at hf ⊢
      exact h1 i j hi hj hf
theorem r_tal {B : Nat} {P : Int → Prop} (hP : ∀ i, i < N → M i → g i = G → P (f i) ∧ P (t i + 1)) : ∀ (e n v : Nat) (ν : Mem), v + e = N → e < n → tlR N g f t c M ν → ptS ν B P → tD B (DD ν) → (∀ y, FWs B (DD ν) y ↔ okP B (ν 336) f t c (fun i => M i ∧ g i = G) v y) → ∃ ν', f_X11_canBe_128 n G (v : Int) ν = f_X11_canBe_280 64 0 ν' ∧ fD ν ν' ∧ tD B (DD ν') ∧ (∀ y, FWs B (DD ν') y ↔ okP B (ν 336) f t c (fun i => M i ∧ g i = G) N y)
  | 0, n + 1, v, ν, h1, h2, h3, h4, h5, h6 => by
    refine ⟨ν, ?_, fun _ _ => rfl, h5, by rw [show N = v by omega]; exact h6⟩
    have := h3.1
    rw [f_X11_canBe_128_e, if_pos (by omega)]
  | e + 1, n + 1, v, ν, h1, h2, h3, h4, h5, h6 => by
    have hN := h3.1
    have hN2 := h3.2.1
    obtain ⟨r1, r2, r3, r4⟩ := h3.2.2.1 v (by omega)
    have hb := h3.2.2.2.1 v (by omega)
    have hM := h3.2.2.2.2 v (by omega)
    have hBB := h4.2.1
    rw [f_X11_canBe_128_e, if_neg (by omega), if_pos (by omega), Int.toNat_natCast]
    by_cases o : M v ∧ g v = G
    case neg =>
      have hk : ∀ y, okP B (ν 336) f t c (fun i => M i ∧ g i = G) v y ↔ okP B (ν 336) f t c (fun i => M i ∧ g i = G) (v + 1) y := by
        intro y
        constructor
        · rintro ⟨x1, x2⟩
          refine ⟨x1, fun i i1 i2 => ?_⟩
          by_cases ei : i = v
          · rw [ei] at i2; exact absurd i2 o
          · exact x2 i (by omega) i2
        · rintro ⟨x1, x2⟩
          exact ⟨x1, fun i i1 i2 => x2 i (by omega) i2⟩
      obtain ⟨ν', q1, q2⟩ := r_tal hP e n (v + 1) ν (by omega) (by omega) h3 h4 h5 (fun y => (h6 y).trans (hk y))
      refine ⟨ν', ?_, q2⟩
      by_cases o1 : M v
      · rw [if_neg (hM.mp o1), r1, if_neg (fun x => o ⟨o1, x⟩), if_pos (by omega), show (v : Int) + 1 = ((v + 1 : Nat) : Int) by omega, q1]
      · have h0 : ν 335 v = 0 := by
          by_cases z : ν 335 v = 0
          · exact z
          · exact absurd (hM.mpr z) o1
        rw [if_pos h0, if_pos (by omega), show (v : Int) + 1 = ((v + 1 : Nat) : Int) by omega, q1]
    obtain ⟨p1, p2⟩ := hP v (by omega) o.1 o.2
    obtain ⟨a, a1, a2⟩ := (h4.2.2.2 (f v)).mpr p1
    obtain ⟨b, b1, b2⟩ := (h4.2.2.2 (t v + 1)).mpr p2
    have hab : a ≠ b := by
      intro eab
      rw [eab] at a2
      omega
    have x1 := p_at0 h4 a1 a2
    have x2 := p_at0 h4 b1 b2
    -- the first number
    let z1 : Int := if c v ≤ DD ν a b then c v else DD ν a b
    have hz1 : z1 = if c v ≤ DD ν a b then c v else DD ν a b := rfl
    let ν1 : Mem := up ν (338 + a) b z1
    have hν1 : ν1 = up ν (338 + a) b z1 := rfl
    have D1 : ∀ i j, i < B → j < B → ¬ (i = a ∧ j = b) → DD ν1 i j = DD ν i j := by
      intro i j hi hj hne
      show up ν (338 + a) b z1 (338 + i) j = ν (338 + i) j
      by_cases ei : i = a
      · subst ei
        rw [up_at, upf_ne (fun x => hne ⟨rfl, x⟩)]
      · rw [up_ne (by omega)]
    have D1ab : DD ν1 a b = z1 := by
      show up ν (338 + a) b z1 (338 + a) b = z1
      rw [up_at, upf_same]
    let z2 : Int := if -(c v) ≤ DD ν1 b a then -(c v) else DD ν1 b a
    have hz2 : z2 = if -(c v) ≤ DD ν1 b a then -(c v) else DD ν1 b a := rfl
    let ν2 : Mem := up ν1 (338 + b) a z2
    have hν2 : ν2 = up ν1 (338 + b) a z2 := rfl
    have D2 : ∀ i j, i < B → j < B → ¬ (i = b ∧ j = a) → DD ν2 i j = DD ν1 i j := by
      intro i j hi hj hne
      show up ν1 (338 + b) a z2 (338 + i) j = ν1 (338 + i) j
      by_cases ei : i = b
      · subst ei
        rw [up_at, upf_ne (fun x => hne ⟨rfl, x⟩)]
      · rw [up_ne (by omega)]
    have D2ba : DD ν2 b a = z2 := by
      show up ν1 (338 + b) a z2 (338 + b) a = z2
      rw [up_at, upf_same]
    have m1 : (c v ≤ DD ν a b ∧ DD ν1 a b = c v) ∨ (DD ν a b < c v ∧ DD ν1 a b = DD ν a b) := by
      rw [D1ab, hz1]
      by_cases q : c v ≤ DD ν a b
      · rw [if_pos q]; exact Or.inl ⟨q, rfl⟩
      · rw [if_neg q]; exact Or.inr ⟨by omega, rfl⟩
    have m2 : (-(c v) ≤ DD ν1 b a ∧ DD ν2 b a = -(c v)) ∨ (DD ν1 b a < -(c v) ∧ DD ν2 b a = DD ν1 b a) := by
      rw [D2ba, hz2]
      by_cases q : -(c v) ≤ DD ν1 b a
      · rw [if_pos q]; exact Or.inl ⟨q, rfl⟩
      · rw [if_neg q]; exact Or.inr ⟨by omega, rfl⟩
    have F1 := FWs_min (B := B) (D := DD ν) (D' := DD ν1) (z := c v) a1 b1 D1 (by omega) m1
    have F2 := FWs_min (B := B) (D := DD ν1) (D' := DD ν2) (z := -(c v)) b1 a1 D2 (by omega) m2
    have hD1ba : DD ν1 b a = DD ν b a := D1 b a b1 a1 (fun x => hab x.1.symm)
    have t2 : tD B (DD ν2) := by
      refine ⟨fun i hi => ?_, fun i j hi hj => ?_⟩
      · rw [D2 i i hi hi (fun x => hab (x.2.symm.trans x.1)), D1 i i hi hi (fun x => hab (x.1.symm.trans x.2))]
        exact h5.1 i hi
      · by_cases e1 : i = b ∧ j = a
        · rw [e1.1, e1.2]
          have := h5.2 b a b1 a1
          omega
        · rw [D2 i j hi hj e1]
          by_cases e2 : i = a ∧ j = b
          · rw [e2.1, e2.2]
            have := h5.2 a b a1 b1
            omega
          · rw [D1 i j hi hj e2]
            exact h5.2 i j hi hj
    have fr2 : fD ν ν2 := by
      intro x hx
      rw [hν2, up_ne (by omega), hν1, up_ne (by omega)]
    have hk : ∀ y, FWs B (DD ν2) y ↔ okP B (ν2 336) f t c (fun i => M i ∧ g i = G) (v + 1) y := by
      intro y
      rw [fr2 336 (by omega), F2 y, F1 y, h6 y]
      constructor
      · rintro ⟨⟨⟨y1, y2⟩, y3⟩, y4⟩
        refine ⟨y1, fun i i1 i2 a' b' ha' hb' pa pb => ?_⟩
        by_cases ei : i = v
        · subst ei
          have ea : a' = a := by
            by_cases q : a' = a
            · exact q
            · rcases Nat.lt_or_gt_of_ne q with q | q
              · exact absurd (pa.trans a2.symm) (h4.2.2.1 a' a q a1)
              · exact absurd (a2.trans pa.symm) (h4.2.2.1 a a' q ha')
          have eb : b' = b := by
            by_cases q : b' = b
            · exact q
            · rcases Nat.lt_or_gt_of_ne q with q | q
              · exact absurd (pb.trans b2.symm) (h4.2.2.1 b' b q b1)
              · exact absurd (b2.trans pb.symm) (h4.2.2.1 b b' q hb')
          rw [ea, eb]
          omega
        · exact y2 i (by omega) i2 a' b' ha' hb' pa pb
      · rintro ⟨y1, y2⟩
        have q := y2 v (by omega) o a b a1 b1 a2 b2
        exact ⟨⟨⟨y1, fun i i1 i2 => y2 i (by omega) i2⟩, by omega⟩, by omega⟩
    obtain ⟨ν', q1, q2, q3, q4⟩ := r_tal hP e n (v + 1) ν2 (by omega) (by omega) (tlR_fr h3 (by rw [fr2 300 (by omega)]) (fr2 331 (by omega)) (fr2 332 (by omega)) (fr2 333 (by omega)) (fr2 334 (by omega)) (fr2 335 (by omega))) (by unfold ptS; rw [fr2 300 (by omega), fr2 336 (by omega)]; exact h4) t2 hk
    rw [fr2 336 (by omega)] at q4
    refine ⟨ν', ?_, fD_tr fr2 q2, q3, q4⟩
    have e334 : ν1 334 v = c v := by rw [hν1, up_ne (by omega)]; exact r4
    have k224 : f_X11_canBe_224 (f_X11_canBe_128 n) G (v : Int) (a : Int) (b : Int) z1 (b : Int) (338 + (a : Int)) ν = f_X11_canBe_128 n G ((v + 1 : Nat) : Int) ν2 := by
      unfold f_X11_canBe_224
      simp only [Int.toNat_natCast, tn338]
      rw [if_pos (by omega), if_pos (by omega), lm_e, ← hν1, if_pos (by omega), if_pos (by omega), if_pos (by omega), e334, if_pos (by omega)]
      by_cases q : -(c v) ≤ DD ν1 b a
      · have ez : z2 = -(c v) := by rw [hz2, if_pos q]
        rw [if_pos (show -(c v) ≤ ν1 (338 + b) a from q), lm_e, if_pos (by omega), ← ez, ← hν2, show (v : Int) + 1 = ((v + 1 : Nat) : Int) by omega]
      · have ez : z2 = DD ν1 b a := by rw [hz2, if_neg q]
        rw [if_neg (show ¬ -(c v) ≤ ν1 (338 + b) a from q), lm_e, if_pos (by omega), show ν1 (338 + b) a = z2 from ez.symm, ← hν2, show (v : Int) + 1 = ((v + 1 : Nat) : Int) by omega]
    rw [if_neg (hM.mp o.1), r1, if_pos o.2, r2, x1, bd_some, r3, if_pos (by omega), x2, bd_some, if_pos (by omega), if_pos (by omega)]
    simp only [Int.toNat_natCast, tn338]
    rw [r4]
    by_cases q : c v ≤ DD ν a b
    · have ez : z1 = c v := by rw [hz1, if_pos q]
      rw [if_pos (show c v ≤ ν (338 + a) b from q), ← ez, k224, q1]
    · have ez : z1 = DD ν a b := by rw [hz1, if_neg q]
      rw [if_neg (show ¬ c v ≤ ν (338 + a) b from q), show ν (338 + a) b = z1 from ez.symm, k224, q1]
end QR
