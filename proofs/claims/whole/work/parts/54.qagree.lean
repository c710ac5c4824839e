/-! QUARREL, the class: do they agree -/
section QC
variable {N : Nat} {g f t c : Nat → Int}
theorem e_raise {B : Nat} {bg en : Nat → Nat} {u : Int} {μ : Mem} (hB : B ≤ 40) (hu : 0 ≤ u ∧ u < 2147483648) {K : Int} (hK : K ≤ 100000) (h3 : tlC N g f t c μ) (h8 : μ 8 10 = (B : Int)) (h4 : ∀ i, i < N → mskP u i → bg i < B ∧ en i < B ∧ μ 38 i = (bg i : Int) ∧ μ 39 i = (en i : Int)) (h6 : ∀ i, i < B → 0 ≤ μ 37 i ∧ μ 37 i ≤ K) : ∃ (μ' : Mem) (fl : Int), f_X8_raiseNumbers μ u = some (fl, μ') ∧ (∀ b, b ≠ 37 → μ' b = μ b) ∧ Rz B (eA B N (mskP u) c bg en) (eA B N (mskP u) c bg en) (μ 37) (μ' 37) fl ∧ (∀ i, i < B → 0 ≤ μ' 37 i ∧ μ' 37 i ≤ K + 600) := by
  obtain ⟨μ1, f1, a1, a2, a3, a4⟩ := e_mono (E := eA B N (mskP u) c bg en) (y := μ 37) (u := u) hB (fun _ _ _ q => Or.inl q) hK (B - 1) 64 1 0 μ (Nat.le_refl 1) (by omega) (by omega) h8 (Rz_0 (fun a b x q => by
    have h1 := q.1
    have h2 := q.2.1
    omega)) h6
  have hN2 := h3.2.1
  obtain ⟨μ2, f2, b1, b2, b3, b4⟩ := e_tal (g := g) (f := f) (t := t) (c := c) (E := eA B N (mskP u) c bg en) (y := μ 37) (bg := bg) (en := en) (u := u) hB hu (fun _ _ _ q => q) hK N 64 0 f1 μ1 (by omega) (by omega) (tlC_fr h3 (by rw [a2 8 (by decide)]) (a2 32 (by decide)) (a2 33 (by decide)) (a2 34 (by decide)) (a2 35 (by decide))) (fun i x1 x2 => by rw [a2 38 (by decide), a2 39 (by decide)]; exact h4 i x1 x2) ⟨a3.1, a3.2.1, fun a b x hx => a3.2.2.1 a b x (by
    rcases hx with hx | ⟨i, i1, -⟩
    · exact hx
    · omega), a3.2.2.2⟩ (fun i hi => by have := a4 i hi; omega)
  refine ⟨μ2, f2, ?_, fun b hb => (b2 b hb).trans (a2 b hb), b3, fun i hi => by have := b4 i hi; omega⟩
  show f_X8_raiseNumbers_4 64 u 0 1 μ = _
  exact a1.trans b1
theorem e_rounds {B : Nat} {bg en : Nat → Nat} {u : Int} (hB : B ≤ 40) (hu : 0 ≤ u ∧ u < 2147483648) (hbe : ∀ i, i < N → mskP u i → bg i < B ∧ en i < B) : ∀ (d n v : Nat) (μ : Mem), v + d = B + 1 → d < n → tlC N g f t c μ → μ 8 10 = (B : Int) → (∀ i, i < N → mskP u i → μ 38 i = (bg i : Int) ∧ μ 39 i = (en i : Int)) → (∀ i, i < B → 0 ≤ μ 37 i ∧ μ 37 i ≤ 600 * (v : Int)) → ∃ (r : Int) (μ' : Mem), f_X8_agreeOnGang_84 n u (v : Int) μ = some (r, μ') ∧ (∀ b, b ≠ 37 → μ' b = μ b) ∧ ((r = 1 ∧ ∃ m, solE B (eA B N (mskP u) c bg en) m) ∨ (r = 0 ∧ ∀ m, leastS B (eA B N (mskP u) c bg en) m → (∀ i, i < B → μ 37 i ≤ m i) → countTo (fun i => μ 37 i = m i) B + (d : Int) ≤ (B : Int)))
  | 0, n + 1, v, μ, h1, h2, h3, h4, h5, h6 => by
    refine ⟨0, μ, ?_, fun _ _ => rfl, Or.inr ⟨rfl, fun m _ _ => ?_⟩⟩
    · rw [f_X8_agreeOnGang_84_e, if_pos (by omega)]
    · have := countTo_b (fun i => μ 37 i = m i) B
      omega
  | d + 1, n + 1, v, μ, h1, h2, h3, h4, h5, h6 => by
    have hEb : ∀ a b x, eA B N (mskP u) c bg en a b x → a < B ∧ b < B := by
      rintro a b x (⟨q1, q2, q3, q4, q5⟩ | ⟨i, q1, q2, q3⟩)
      · omega
      · have := hbe i q1 q2
        rcases q3 with ⟨e1, e2, -⟩ | ⟨e1, e2, -⟩
        · rw [e1, e2]; exact this
        · rw [e1, e2]; exact ⟨this.2, this.1⟩
    obtain ⟨μ1, fl, r1, r2, r3, r4⟩ := e_raise (bg := bg) (en := en) (K := 600 * (v : Int)) hB hu (by omega) h3 h4 (fun i x1 x2 => ⟨(hbe i x1 x2).1, (hbe i x1 x2).2, h5 i x1 x2⟩) h6
    rw [f_X8_agreeOnGang_84_e, if_neg (by omega), r1, bd_some]
    rcases r3.2.2.2 with ⟨f0, q⟩ | ⟨f1, q⟩
    · refine ⟨1, μ1, by rw [if_pos f0], r2, Or.inl ⟨rfl, μ1 37, fun a b x hx => ?_⟩⟩
      have e := r3.2.2.1 a b x hx
      rw [q a (hEb a b x hx).1]
      exact e
    · obtain ⟨r, μ', k1, k2, k3⟩ := e_rounds hB hu hbe d n (v + 1) μ1 (by omega) (by omega) (tlC_fr h3 (by rw [r2 8 (by decide)]) (r2 32 (by decide)) (r2 33 (by decide)) (r2 34 (by decide)) (r2 35 (by decide))) (by rw [r2 8 (by decide)]; exact h4) (fun i x1 x2 => by rw [r2 38 (by decide), r2 39 (by decide)]; exact h5 i x1 x2) (fun i hi => by have := r4 i hi; omega)
      refine ⟨r, μ', ?_, fun b hb => (k2 b hb).trans (r2 b hb), ?_⟩
      · rw [if_neg (by omega), if_pos (by omega), show (v : Int) + 1 = ((v + 1 : Nat) : Int) by omega, k1]
      · rcases k3 with k3 | ⟨k3, k4⟩
        · exact Or.inl k3
        · refine Or.inr ⟨k3, fun m hm hy => ?_⟩
          have hz := r3.2.1 m hm.1 hy
          have c1 := k4 m hm hz
          have hne : ¬ ∀ i, i < B → μ 37 i = m i := by
            intro hall
            obtain ⟨i, i1, i2⟩ := q
            have a := hz i i1
            have b := hall i i1
            omega
          have c2 := round_settles (y := μ 37) (y' := μ1 37) hEb hm (fun i hi => (h6 i hi).1) r3.1 hz r3.2.2.1 hne
          omega
def idxR (a : Nat → Int) : Nat → Int → Nat
  | 0, _ => 0
  | n + 1, d => if a n = d then n else idxR a n d
theorem idxR_e {a : Nat → Int} : ∀ (B : Nat), (∀ i j, i < j → j < B → a i < a j) → ∀ j, j < B → idxR a B (a j) = j
  | 0, _, j, hj => by omega
  | B + 1, h, j, hj => by
    show (if a B = a j then B else idxR a B (a j)) = j
    by_cases e : j = B
    · rw [e, if_pos rfl]
    · have := h j B (by omega) (by omega)
      rw [if_neg (by omega)]
      exact idxR_e B (fun i k h1 h2 => h i k h1 (by omega)) j (by omega)
theorem sol_mono {B : Nat} {o : Nat → Prop} {bg en : Nat → Nat} {m : Nat → Int} (h : solE B (eA B N o c bg en) m) : ∀ (d i : Nat), i + d < B → m i ≤ m (i + d)
  | 0, i, _ => Int.le_refl _
  | d + 1, i, hi => by
    have ih := sol_mono h d i (by omega)
    have e := h (i + d) (i + (d + 1)) 0 (Or.inl ⟨by omega, by omega, by omega, by omega, rfl⟩)
    omega
/-- what the numbers at the borders are worth -/
theorem sol_feas {B : Nat} {a : Nat → Int} {M o : Nat → Prop} {G : Int} {bg en : Nat → Nat} (hs : ∀ i j, i < j → j < B → a i < a j) (hP : ∀ d, (∃ j, j < B ∧ a j = d) ↔ borderP (N : Int) g f t M G d) (ho : ∀ i, i < N → (o i ↔ M i ∧ g i = G)) (hbe : ∀ i, i < N → o i → bg i < B ∧ en i < B ∧ a (bg i) = f i ∧ a (en i) = t i + 1) : feas (N : Int) g f t c M G ↔ ∃ m, solE B (eA B N o c bg en) m ∧ ∀ i, i < B → 0 ≤ m i := by
  constructor
  · rintro ⟨x, x1, x2⟩
    have hB : ∀ j, j < B → borderP (N : Int) g f t M G (a j) := fun j hj => (hP (a j)).mp ⟨j, hj, rfl⟩
    refine ⟨fun j => x (a j) - x (a 0), fun u v w h => ?_, fun i hi => ?_⟩
    · show x (a u) - x (a 0) + w ≤ x (a v) - x (a 0)
      rcases h with ⟨h1, h2, h3, h4, h5⟩ | ⟨i, h1, h2, h3⟩
      · have q := x1 (a u) (a v) (hB u (by omega)) (hB v h3) (by have := hs u v (by omega) h3; omega)
        omega
      · obtain ⟨b1, b2, b3, b4⟩ := hbe i h1 h2
        have hM := (ho i h1).mp h2
        have q := x2 i (by omega) hM.1 hM.2
        rcases h3 with ⟨e1, e2, e3⟩ | ⟨e1, e2, e3⟩
        · rw [e1, e2, e3, b3, b4]; omega
        · rw [e1, e2, e3, b3, b4]; omega
    · show 0 ≤ x (a i) - x (a 0)
      have q := x1 (a 0) (a i) (hB 0 (by omega)) (hB i hi) (by
        by_cases e : i = 0
        · rw [e]; exact Int.le_refl _
        · have := hs 0 i (by omega) hi; omega)
      omega
  · rintro ⟨m, m1, -⟩
    refine ⟨fun d => m (idxR a B d), fun d e hd he hde => ?_, fun i i1 i2 i3 => ?_⟩
    · obtain ⟨j, j1, j2⟩ := (hP d).mpr hd
      obtain ⟨k, k1, k2⟩ := (hP e).mpr he
      show m (idxR a B d) ≤ m (idxR a B e)
      rw [← j2, ← k2, idxR_e B hs j j1, idxR_e B hs k k1]
      have hjk : j ≤ k := by
        by_cases q : j ≤ k
        · exact q
        · have := hs k j (by omega) j1
          omega
      have := sol_mono m1 (k - j) j (by omega)
      rw [show j + (k - j) = k by omega] at this
      exact this
    · have hN : i < N := by omega
      have oi := (ho i hN).mpr ⟨i2, i3⟩
      obtain ⟨b1, b2, b3, b4⟩ := hbe i hN oi
      show m (idxR a B (t i + 1)) - m (idxR a B (f i)) = c i
      rw [← b3, ← b4, idxR_e B hs _ b1, idxR_e B hs _ b2]
      have e1 := m1 (bg i) (en i) (c i) (Or.inr ⟨i, hN, oi, Or.inl ⟨rfl, rfl, rfl⟩⟩)
      have e2 := m1 (en i) (bg i) (-(c i)) (Or.inr ⟨i, hN, oi, Or.inr ⟨rfl, rfl, rfl⟩⟩)
      omega
def qC (μ μ' : Mem) : Prop := (∀ a, a ≠ 8 → a ≠ 36 → a ≠ 37 → a ≠ 38 → a ≠ 39 → μ' a = μ a) ∧ (∀ j, j ≠ 10 → μ' 8 j = μ 8 j)
theorem qC_rf (μ : Mem) : qC μ μ := ⟨fun _ _ _ _ _ _ => rfl, fun _ _ => rfl⟩
theorem qC_tr {a b d : Mem} (h : qC a b) (k : qC b d) : qC a d := ⟨fun x h1 h2 h3 h4 h5 => (k.1 x h1 h2 h3 h4 h5).trans (h.1 x h1 h2 h3 h4 h5), fun j hj => (k.2 j hj).trans (h.2 j hj)⟩
theorem tlC_q {μ μ' : Mem} (h : tlC N g f t c μ) (k : qC μ μ') : tlC N g f t c μ' := tlC_fr h (k.2 5 (by decide)) (k.1 32 (by decide) (by decide) (by decide) (by decide) (by decide)) (k.1 33 (by decide) (by decide) (by decide) (by decide) (by decide)) (k.1 34 (by decide) (by decide) (by decide) (by decide) (by decide)) (k.1 35 (by decide) (by decide) (by decide) (by decide) (by decide))
theorem e_agreeOnGang {w G : Int} {μ : Mem} (hw : 0 ≤ w ∧ w < 2147483648) (h : tlC N g f t c μ) : ∃ μ', f_X8_agreeOnGang μ w G = some (b2i (feas (N : Int) g f t c (mskP w) G), μ') ∧ qC μ μ' := by
  have hN2 := h.2.1
  have m0 : ∀ i, ¬ mskP 0 i := fun i => by unfold mskP; simp
  obtain ⟨μ1, B, u, a1, a2, a3, a4, a5⟩ := e_ours (G := G) hw N 64 0 0 0 (up μ 8 10 0) (by omega) (by omega) (tlC_fr h (by simp (disch := omega) only [bd_some, lm_e, if_pos, if_neg, up_ne, up_at, upf_same, upf_ne, reduceIte, or_true, true_or, Int.reduceToNat, Int.toNat_natCast, tn100, tn200]) (by simp (disch := omega) only [bd_some, lm_e, if_pos, if_neg, up_ne, up_at, upf_same, upf_ne, reduceIte, or_true, true_or, Int.reduceToNat, Int.toNat_natCast, tn100, tn200]) (by simp (disch := omega) only [bd_some, lm_e, if_pos, if_neg, up_ne, up_at, upf_same, upf_ne, reduceIte, or_true, true_or, Int.reduceToNat, Int.toNat_natCast, tn100, tn200]) (by simp (disch := omega) only [bd_some, lm_e, if_pos, if_neg, up_ne, up_at, upf_same, upf_ne, reduceIte, or_true, true_or, Int.reduceToNat, Int.toNat_natCast, tn100, tn200]) (by simp (disch := omega) only [bd_some, lm_e, if_pos, if_neg, up_ne, up_at, upf_same, upf_ne, reduceIte, or_true, true_or, Int.reduceToNat, Int.toNat_natCast, tn100, tn200])) ⟨by simp (disch := omega) only [bd_some, lm_e, if_pos, if_neg, up_ne, up_at, upf_same, upf_ne, reduceIte, or_true, true_or, Int.reduceToNat, Int.toNat_natCast, tn100, tn200]; rfl, by omega, fun i j _ hj => by omega, fun d => ⟨fun ⟨j, hj, _⟩ => by omega, fun ⟨j, hj, _⟩ => by omega⟩⟩ (by omega) (by decide) (fun i => ⟨fun x => absurd x (m0 i), fun x => by omega⟩)
  rw [show ((0 : Nat) : Int) = 0 from rfl] at a1
  have h1 : tlC N g f t c μ1 := tlC_B (tlC_fr h (by simp (disch := omega) only [bd_some, lm_e, if_pos, if_neg, up_ne, up_at, upf_same, upf_ne, reduceIte, or_true, true_or, Int.reduceToNat, Int.toNat_natCast, tn100, tn200]) (by simp (disch := omega) only [bd_some, lm_e, if_pos, if_neg, up_ne, up_at, upf_same, upf_ne, reduceIte, or_true, true_or, Int.reduceToNat, Int.toNat_natCast, tn100, tn200]) (by simp (disch := omega) only [bd_some, lm_e, if_pos, if_neg, up_ne, up_at, upf_same, upf_ne, reduceIte, or_true, true_or, Int.reduceToNat, Int.toNat_natCast, tn100, tn200]) (by simp (disch := omega) only [bd_some, lm_e, if_pos, if_neg, up_ne, up_at, upf_same, upf_ne, reduceIte, or_true, true_or, Int.reduceToNat, Int.toNat_natCast, tn100, tn200]) (by simp (disch := omega) only [bd_some, lm_e, if_pos, if_neg, up_ne, up_at, upf_same, upf_ne, reduceIte, or_true, true_or, Int.reduceToNat, Int.toNat_natCast, tn100, tn200])) a5
  have hB := a2.2.1
  obtain ⟨μ2, b1, b2, -, b4⟩ := e_zero (u := u) hB B 64 0 μ1 (by omega) (by omega) a2.1
  rw [show ((0 : Nat) : Int) = 0 from rfl] at b1
  have h2 : tlC N g f t c μ2 := tlC_fr h1 (by rw [b2 8 (by decide)]) (b2 32 (by decide)) (b2 33 (by decide)) (b2 34 (by decide)) (b2 35 (by decide))
  have a2' : bdS μ2 B (ourP (fun i => mskP w i ∧ g i = G) f t N) := by
    unfold bdS
    rw [b2 8 (by decide), b2 36 (by decide)]
    exact a2
  obtain ⟨μ3, c1, c2, c3⟩ := e_find (f := f) (t := t) (N := N) a3 (B := B) (P := ourP (fun i => mskP w i ∧ g i = G) f t N) (fun i i1 i2 => ⟨⟨i, i1, ((a4 i).mp i2).2, Or.inl rfl⟩, ⟨i, i1, ((a4 i).mp i2).2, Or.inr rfl⟩⟩) N 64 0 μ2 (by omega) (by omega) h2 a2' (fun i hi => by omega)
  rw [show ((0 : Nat) : Int) = 0 from rfl] at c1
  have h3 : tlC N g f t c μ3 := tlC_fr h2 (by rw [c3 8 (by decide) (by decide)]) (c3 32 (by decide) (by decide)) (c3 33 (by decide) (by decide)) (c3 34 (by decide) (by decide)) (c3 35 (by decide) (by decide))
  have e37 : ∀ i, i < B → μ3 37 i = 0 := fun i hi => by rw [c3 37 (by decide) (by decide)]; exact b4 i (by omega) hi
  have e810 : μ3 8 10 = (B : Int) := by rw [c3 8 (by decide) (by decide)]; exact a2'.1
  have e36 : μ3 36 = μ1 36 := by rw [c3 36 (by decide) (by decide), b2 36 (by decide)]
  obtain ⟨r, μ4, d1, d2, d3⟩ := e_rounds (bg := fun i => (μ3 38 i).toNat) (en := fun i => (μ3 39 i).toNat) (u := u) hB a3 (fun i i1 i2 => by have := c2 i i1 i2; omega) (B + 1) 64 0 μ3 (by omega) (by omega) h3 e810 (fun i i1 i2 => by have := c2 i i1 i2; omega) (fun i hi => by rw [e37 i hi]; omega)
  rw [show ((0 : Nat) : Int) = 0 from rfl] at d1
  have SF := sol_feas (N := N) (g := g) (f := f) (t := t) (c := c) (B := B) (a := μ1 36) (M := mskP w) (o := mskP u) (G := G) (bg := fun i => (μ3 38 i).toNat) (en := fun i => (μ3 39 i).toNat) a2.2.2.1 (fun d => by
    rw [a2.2.2.2 d]
    constructor
    · rintro ⟨i, i1, i2, i3⟩
      exact ⟨i, by omega, i2.1, i2.2, i3⟩
    · rintro ⟨i, i1, i2, i3, i4⟩
      exact ⟨i, by omega, ⟨i2, i3⟩, i4⟩) (fun i hi => by rw [a4 i]; exact ⟨fun x => x.2, fun x => ⟨hi, x⟩⟩) (fun i i1 i2 => by
    obtain ⟨⟨x1, x2, x3⟩, ⟨y1, y2, y3⟩⟩ := c2 i i1 i2
    rw [e36] at x3 y3
    exact ⟨by omega, by omega, x3, y3⟩)
  have hr : r = b2i (feas (N : Int) g f t c (mskP w) G) := by
    rcases d3 with ⟨r1, m, hm⟩ | ⟨r0, hno⟩
    · rw [r1, b2i_t (SF.mpr ⟨fun i => m i - m 0, fun a b x h => by
        have := hm a b x h
        show m a - m 0 + x ≤ m b - m 0
        omega, fun i hi => by
        have := sol_mono hm i 0 (by omega)
        rw [Nat.zero_add] at this
        show 0 ≤ m i - m 0
        omega⟩)]
    · rw [r0, b2i_f]
      intro hf
      obtain ⟨m, hm⟩ := leastS_ex (SF.mp hf)
      have := hno m hm (fun i hi => by rw [e37 i hi]; exact hm.2.1 i hi)
      have := countTo_b (fun i => μ3 37 i = m i) B
      omega
  refine ⟨μ4, ?_, ⟨fun b x1 x2 x3 x4 x5 => ?_, fun j hj => ?_⟩⟩
  · unfold f_X8_agreeOnGang
    have fb : f_X8_findBorders μ1 u = some (0, μ3) := b1.trans c1
    rw [lm_e, a1, fb, bd_some, d1, hr]
  · rw [d2 b x3, c3 b x4 x5, b2 b x3, a5.1 b x2 x1]
    simp (disch := omega) only [bd_some, lm_e, if_pos, if_neg, up_ne, up_at, upf_same, upf_ne, reduceIte, or_true, true_or, Int.reduceToNat, Int.toNat_natCast, tn100, tn200]
  · rw [d2 8 (by decide), c3 8 (by decide) (by decide), b2 8 (by decide), a5.2 j hj]
    simp (disch := omega) only [bd_some, lm_e, if_pos, if_neg, up_ne, up_at, upf_same, upf_ne, reduceIte, or_true, true_or, Int.reduceToNat, Int.toNat_natCast, tn100, tn200]
theorem e_agree {w : Int} (hw : 0 ≤ w ∧ w < 2147483648) : ∀ (d n v : Nat) (μ : Mem), v + d = 6 → d < n → tlC N g f t c μ → ∃ μ', f_X8_agree_2 n w (v : Int) μ = some (b2i (∀ G : Int, (v : Int) ≤ G → G < 6 → feas (N : Int) g f t c (mskP w) G), μ') ∧ qC μ μ'
  | 0, n + 1, v, μ, h1, h2, h3 => by
    refine ⟨μ, ?_, qC_rf μ⟩
    rw [f_X8_agree_2_e, if_pos (by omega), b2i_t (fun G g1 g2 => by omega)]
  | d + 1, n + 1, v, μ, h1, h2, h3 => by
    obtain ⟨μ1, a1, a2⟩ := e_agreeOnGang (G := (v : Int)) hw h3
    rw [f_X8_agree_2_e, if_neg (by omega), a1, bd_some]
    by_cases hf : feas (N : Int) g f t c (mskP w) (v : Int)
    · obtain ⟨μ', q1, q2⟩ := e_agree hw d n (v + 1) μ1 (by omega) (by omega) (tlC_q h3 a2)
      refine ⟨μ', ?_, qC_tr a2 q2⟩
      rw [b2i_t hf, if_neg (by decide), if_pos (by omega), show (v : Int) + 1 = ((v + 1 : Nat) : Int) by omega, q1]
      refine congrArg (fun z => some (z, μ')) (b2i_cong ⟨fun h G g1 g2 => ?_, fun h G g1 g2 => h G (by omega) g2⟩)
      by_cases e : G = (v : Int)
      · rw [e]; exact hf
      · exact h G (by omega) g2
    · refine ⟨μ1, ?_, a2⟩
      rw [b2i_f hf, if_pos rfl, b2i_f (fun h => hf (h (v : Int) (Int.le_refl _) (by omega)))]
theorem e_agree0 {w : Int} {μ : Mem} (hw : 0 ≤ w ∧ w < 2147483648) (h : tlC N g f t c μ) : ∃ μ', f_X8_agree μ w = some (b2i (agr (N : Int) g f t c (mskP w)), μ') ∧ qC μ μ' := by
  obtain ⟨μ', q1, q2⟩ := e_agree hw 6 64 0 μ rfl (by decide) h
  exact ⟨μ', q1, q2⟩
end QC
