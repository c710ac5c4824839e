/-! QUARREL, the reference: the shortest ways -/
section QR
variable {N : Nat} {g f t c : Nat → Int} {M : Nat → Prop} {G : Int}
theorem r_fw1 {k280 : Int → Mem → Option (Int × Mem)} {k290 : Int → Int → Mem → Option (Int × Mem)} {B m a : Nat} {D : Nat → Nat → Int} (hB : B ≤ 40) (hD : FWi B m D) (hm : m < B) (ha : a < B) : ∀ (e n b : Nat) (ν : Mem), b + e = B → e < n → ν 300 51 = (B : Int) → (∀ i j, i < B → j < B → i < a → DD ν i j = stepF D m i j) → (∀ i j, i < B → j < B → a < i → DD ν i j = D i j) → (∀ j, j < b → DD ν a j = stepF D m a j) → (∀ j, b ≤ j → j < B → DD ν a j = D a j) → ∃ ν', f_X11_canBe_301 k280 k290 n (m : Int) (a : Int) (b : Int) ν = k290 (m : Int) ((a : Int) + 1) ν' ∧ fD ν ν' ∧ (∀ i j, i < B → j < B → i < a + 1 → DD ν' i j = stepF D m i j) ∧ (∀ i j, i < B → j < B → a < i → DD ν' i j = D i j)
  | 0, n + 1, b, ν, h1, h2, h3, h4, h5, h6, h7 => by
    refine ⟨ν, ?_, fun _ _ => rfl, fun i j hi hj hia => ?_, h5⟩
    · rw [f_X11_canBe_301_e, if_pos (by omega), if_pos (by omega)]
    · by_cases e : i = a
      · subst e
        exact h6 j (by omega)
      · exact h4 i j hi hj (by omega)
  | e + 1, n + 1, b, ν, h1, h2, h3, h4, h5, h6, h7 => by
    have hb : b < B := by omega
    have eam : ν (338 + a) m = D a m := by
      by_cases q : m < b
      · rw [show ν (338 + a) m = stepF D m a m from h6 m q, (stepF_0 hD hm ha).1]
      · exact h7 m (by omega) hm
    have emb : ν (338 + m) b = D m b := by
      rcases Nat.lt_trichotomy m a with q | q | q
      · rw [show ν (338 + m) b = stepF D m m b from h4 m b hm hb q, (stepF_0 hD hm hb).2]
      · rw [q]; exact h7 b (Nat.le_refl b) hb
      · exact h5 m b hm hb q
    have eab : ν (338 + a) b = D a b := h7 b (Nat.le_refl b) hb
    have go : ∀ w : Int, w = addF (D a m) (D m b) → ∃ ν', f_X11_canBe_363 k280 k290 (f_X11_canBe_301 k280 k290 n) (m : Int) (a : Int) (b : Int) w ν = k290 (m : Int) ((a : Int) + 1) ν' ∧ fD ν ν' ∧ (∀ i j, i < B → j < B → i < a + 1 → DD ν' i j = stepF D m i j) ∧ (∀ i j, i < B → j < B → a < i → DD ν' i j = D i j) := by
      intro w hw
      have go2 : ∀ z : Int, z = stepF D m a b → ∃ ν', f_X11_canBe_301 k280 k290 n (m : Int) (a : Int) ((b : Int) + 1) (up ν (338 + a) b z) = k290 (m : Int) ((a : Int) + 1) ν' ∧ fD ν ν' ∧ (∀ i j, i < B → j < B → i < a + 1 → DD ν' i j = stepF D m i j) ∧ (∀ i j, i < B → j < B → a < i → DD ν' i j = D i j) := by
        intro z hz
        obtain ⟨ν', q1, q2, q3, q4⟩ := r_fw1 (k280 := k280) (k290 := k290) hB hD hm ha e n (b + 1) (up ν (338 + a) b z) (by omega) (by omega) (by simp (disch := omega) only [bd_some, lm_e, if_pos, if_neg, up_ne, up_at, upf_same, upf_ne, reduceIte, or_true, true_or, Int.reduceToNat, Int.toNat_natCast, tn100, tn200]; exact h3) (fun i j hi hj hia => by
          unfold DD
          rw [up_ne (by omega)]
          exact h4 i j hi hj hia) (fun i j hi hj hia => by
          unfold DD
          rw [up_ne (by omega)]
          exact h5 i j hi hj hia) (fun j hj => by
          unfold DD
          by_cases ej : j = b
          · subst ej
            rw [up_at, upf_same]; exact hz
          · rw [up_at, upf_ne ej]
            exact h6 j (by omega)) (fun j j1 j2 => by
          unfold DD
          rw [up_at, upf_ne (by omega)]
          exact h7 j (by omega) j2)
        rw [show ((b + 1 : Nat) : Int) = (b : Int) + 1 by omega] at q1
        exact ⟨ν', q1, fun x hx => by rw [q2 x hx, up_ne (by omega)], q3, q4⟩
      unfold f_X11_canBe_363
      simp only [Int.toNat_natCast, tn338]
      rw [if_pos (by omega), if_pos (by omega), eab]
      by_cases q : w ≤ D a b
      · obtain ⟨ν', q1, q2⟩ := go2 w (by unfold stepF; rw [← hw, if_neg (by omega)])
        refine ⟨ν', ?_, q2⟩
        rw [if_pos q, lm_e, if_pos (by omega), q1]
      · obtain ⟨ν', q1, q2⟩ := go2 (D a b) (by unfold stepF; rw [← hw, if_pos (by omega)])
        refine ⟨ν', ?_, q2⟩
        rw [if_neg q, lm_e, if_pos (by omega), q1]
    rw [f_X11_canBe_301_e, if_neg (by omega), if_pos (by omega), if_pos (by omega)]
    simp only [Int.toNat_natCast, tn338]
    rw [eam, emb]
    by_cases c1 : D a m = 268435456
    · obtain ⟨ν', q1, q2⟩ := go 268435456 (by unfold addF; rw [if_pos (Or.inl c1)])
      refine ⟨ν', ?_, q2⟩
      rw [if_pos c1]
      exact q1
    · by_cases c2 : D m b = 268435456
      · obtain ⟨ν', q1, q2⟩ := go 268435456 (by unfold addF; rw [if_pos (Or.inr c2)])
        refine ⟨ν', ?_, q2⟩
        rw [if_neg c1, if_pos (by omega), if_pos c2]
        exact q1
      · have b1 := FWi_b hD (by omega) ha hm c1
        have b2 := FWi_b hD (by omega) hm hb c2
        obtain ⟨ν', q1, q2⟩ := go (D a m + D m b) (by unfold addF; rw [if_neg (by omega)])
        refine ⟨ν', ?_, q2⟩
        rw [if_neg c1, if_pos (by omega), if_neg c2, if_pos (by omega)]
        exact q1
theorem r_fw2 {k280 : Int → Mem → Option (Int × Mem)} {B m : Nat} {D : Nat → Nat → Int} (hB : B ≤ 40) (hD : FWi B m D) (hm : m < B) : ∀ (e n a : Nat) (ν : Mem), a + e = B → e < n → ν 300 51 = (B : Int) → (∀ i j, i < B → j < B → i < a → DD ν i j = stepF D m i j) → (∀ i j, i < B → j < B → a ≤ i → DD ν i j = D i j) → ∃ ν', f_X11_canBe_290 k280 n (m : Int) (a : Int) ν = f_X11_canBe_416 k280 64 (m : Int) 0 ν' ∧ fD ν ν' ∧ (∀ i j, i < B → j < B → DD ν' i j = stepF D m i j)
  | 0, n + 1, a, ν, h1, h2, h3, h4, h5 => by
    refine ⟨ν, ?_, fun _ _ => rfl, fun i j hi hj => h4 i j hi hj (by omega)⟩
    rw [f_X11_canBe_290_e, if_pos (by omega)]
  | e + 1, n + 1, a, ν, h1, h2, h3, h4, h5 => by
    obtain ⟨ν1, q1, q2, q3, q4⟩ := r_fw1 (k280 := k280) (k290 := f_X11_canBe_290 k280 n) (a := a) hB hD hm (by omega) B 64 0 ν (by omega) (by omega) h3 h4 (fun i j hi hj hia => h5 i j hi hj (by omega)) (fun j hj => by omega) (fun j _ hj => h5 a j (by omega) hj (Nat.le_refl a))
    rw [show ((0 : Nat) : Int) = 0 from rfl] at q1
    obtain ⟨ν', w1, w2, w3⟩ := r_fw2 (k280 := k280) hB hD hm e n (a + 1) ν1 (by omega) (by omega) (by rw [q2 300 (by omega)]; exact h3) q3 (fun i j hi hj hia => q4 i j hi hj (by omega))
    refine ⟨ν', ?_, fD_tr q2 w2, w3⟩
    rw [f_X11_canBe_290_e, if_neg (by omega), q1, show (a : Int) + 1 = ((a + 1 : Nat) : Int) by omega, w1]
theorem r_diag {k280 : Int → Mem → Option (Int × Mem)} {B m : Nat} {ν : Mem} (hB : B ≤ 40) (hm : m < B) (h3 : ν 300 51 = (B : Int)) : ∀ (e n a : Nat), a + e = B → e < n → (∀ i, i < a → 0 ≤ DD ν i i) → (f_X11_canBe_416 k280 n (m : Int) (a : Int) ν = k280 ((m : Int) + 1) ν ∧ ∀ i, i < B → 0 ≤ DD ν i i) ∨ (f_X11_canBe_416 k280 n (m : Int) (a : Int) ν = some (0, ν) ∧ ∃ i, i < B ∧ DD ν i i < 0)
  | 0, n + 1, a, h1, h2, h4 => by
    refine Or.inl ⟨?_, fun i hi => h4 i (by omega)⟩
    rw [f_X11_canBe_416_e, if_pos (by omega), if_pos (by omega)]
  | e + 1, n + 1, a, h1, h2, h4 => by
    rw [f_X11_canBe_416_e, if_neg (by omega), if_pos (by omega)]
    simp only [Int.toNat_natCast, tn338]
    by_cases q : 0 ≤ DD ν a a
    · rw [if_pos (show 0 ≤ ν (338 + a) a from q), if_pos (by omega), show (a : Int) + 1 = ((a + 1 : Nat) : Int) by omega]
      exact r_diag hB hm h3 e n (a + 1) (by omega) (by omega) (fun i hi => by
        by_cases ei : i = a
        · rw [ei]; exact q
        · exact h4 i (by omega))
    · rw [if_neg (show ¬ 0 ≤ ν (338 + a) a from q)]
      exact Or.inr ⟨rfl, a, by omega, by omega⟩
theorem FWs_cong {B : Nat} {D D' : Nat → Nat → Int} (h : ∀ i j, i < B → j < B → D' i j = D i j) (y : Nat → Int) : FWs B D' y ↔ FWs B D y := by
  constructor
  · intro q a b ha hb hf
    rw [← h a b ha hb] at hf ⊢
    exact q a b ha hb hf
  · intro q a b ha hb hf
    rw [h a b ha hb] at hf ⊢
    exact q a b ha hb hf
theorem FWi_cong {B m : Nat} {D D' : Nat → Nat → Int} (hm : m ≤ B) (h : ∀ i j, i < B → j < B → D' i j = D i j) (q : FWi B m D) : FWi B m D' := by
  obtain ⟨q1, q2, q3⟩ := q
  refine ⟨fun a ha => by rw [h a a ha ha]; exact q1 a ha, fun k a b hk ha hb h1 h2 => ?_, fun a b ha hb => ?_⟩
  · rw [h a k ha (by omega)] at h1 ⊢
    rw [h k b (by omega) hb] at h2 ⊢
    rw [h a b ha hb]
    exact q2 k a b hk ha hb h1 h2
  · rw [h a b ha hb]
    rcases q3 a b ha hb with e | ⟨A, a1, a2⟩
    · exact Or.inl e
    · refine Or.inr ⟨A, fun k hk => ?_, a2⟩
      obtain ⟨k1, k2⟩ := a1 k hk
      rw [h a k ha (by omega), h k b (by omega) hb]
      exact ⟨k1, k2⟩
theorem r_fw {B : Nat} (hB : B ≤ 40) : ∀ (e n m : Nat) (ν : Mem), m + e = B → e < n → ν 300 51 = (B : Int) → FWi B m (DD ν) → ∃ r ν', f_X11_canBe_280 n (m : Int) ν = some (r, ν') ∧ fD ν ν' ∧ r = b2i (∃ y, FWs B (DD ν) y)
  | 0, n + 1, m, ν, h1, h2, h3, h4 => by
    have hm : m = B := by omega
    subst hm
    refine ⟨1, ν, ?_, fun _ _ => rfl, (b2i_t (FWi_sol h4 hB)).symm⟩
    rw [f_X11_canBe_280_e, if_pos (by omega)]
  | e + 1, n + 1, m, ν, h1, h2, h3, h4 => by
    have hm : m < B := by omega
    have hle : ∀ a b, a < B → b < B → DD ν a b ≤ 268435456 := fun a b ha hb => by
      by_cases q : DD ν a b = 268435456
      · omega
      · have := FWi_b h4 (by omega) ha hb q; omega
    obtain ⟨ν1, q1, q2, q3⟩ := r_fw2 (k280 := f_X11_canBe_280 n) (m := m) (D := DD ν) hB h4 hm B 64 0 ν (by omega) (by omega) h3 (fun i j _ _ hi => by omega) (fun _ _ _ _ _ => rfl)
    rw [show ((0 : Nat) : Int) = 0 from rfl] at q1
    have h31 : ν1 300 51 = (B : Int) := by rw [q2 300 (by omega)]; exact h3
    have hS : ∀ y, FWs B (DD ν1) y ↔ FWs B (DD ν) y := fun y => (FWs_cong q3 y).trans ⟨FWs_back hle, FWs_step hle hm⟩
    rw [f_X11_canBe_280_e, if_neg (by omega), q1]
    have dg := r_diag (k280 := f_X11_canBe_280 n) (m := m) (ν := ν1) hB hm h31 B 64 0 (by omega) (by omega) (fun i hi => by omega)
    rw [show ((0 : Nat) : Int) = 0 from rfl] at dg
    rcases dg with ⟨d1, d2⟩ | ⟨d1, i, d2, d3⟩
    · have F := FWi_step h4 hB hm (fun a ha => by rw [← q3 a a ha ha]; exact d2 a ha)
      have F1 : FWi B (m + 1) (DD ν1) := FWi_cong (by omega) q3 F
      obtain ⟨r, ν', w1, w2, w3⟩ := r_fw hB e n (m + 1) ν1 (by omega) (by omega) h31 F1
      refine ⟨r, ν', ?_, fD_tr q2 w2, ?_⟩
      · rw [d1, show (m : Int) + 1 = ((m + 1 : Nat) : Int) by omega, w1]
      · rw [w3]
        exact b2i_cong ⟨fun ⟨y, hy⟩ => ⟨y, (hS y).mp hy⟩, fun ⟨y, hy⟩ => ⟨y, (hS y).mpr hy⟩⟩
    · refine ⟨0, ν1, d1, q2, ?_⟩
      rw [b2i_f]
      rintro ⟨y, hy⟩
      have := (hS y).mpr hy i i d2 d2 (by omega)
      omega
theorem idxR_e2 {a : Nat → Int} : ∀ (B : Nat), (∀ i j, i < j → j < B → a i ≠ a j) → ∀ j, j < B → idxR a B (a j) = j
  | 0, _, j, hj => by omega
  | B + 1, h, j, hj => by
    show (if a B = a j then B else idxR a B (a j)) = j
    by_cases e : j = B
    · rw [e, if_pos rfl]
    · have := h j B (by omega) (by omega)
      rw [if_neg (fun x => this x.symm)]
      exact idxR_e2 B (fun i k h1 h2 => h i k h1 (by omega)) j (by omega)
def qR (ν ν' : Mem) : Prop := (∀ a, a ≠ 300 → a ≠ 336 → ¬ (338 ≤ a ∧ a < 378) → ν' a = ν a) ∧ (∀ j, j ≠ 51 → ν' 300 j = ν 300 j)
theorem qR_rf (ν : Mem) : qR ν ν := ⟨fun _ _ _ _ => rfl, fun _ _ => rfl⟩
theorem qR_tr {a b d : Mem} (h : qR a b) (k : qR b d) : qR a d := ⟨fun x h1 h2 h3 => (k.1 x h1 h2 h3).trans (h.1 x h1 h2 h3), fun j hj => (k.2 j hj).trans (h.2 j hj)⟩
theorem tlR_q {ν ν' : Mem} (h : tlR N g f t c M ν) (k : qR ν ν') : tlR N g f t c M ν' := tlR_fr h (k.2 45 (by decide)) (k.1 331 (by decide) (by decide) (by decide)) (k.1 332 (by decide) (by decide) (by decide)) (k.1 333 (by decide) (by decide) (by decide)) (k.1 334 (by decide) (by decide) (by decide)) (k.1 335 (by decide) (by decide) (by decide))
theorem r_canBe {ν : Mem} (h : tlR N g f t c M ν) : ∃ ν', f_X11_canBe ν G = some (b2i (feas (N : Int) g f t c M G), ν') ∧ qR ν ν' := by
  have hN2 := h.2.1
  have h0 : tlR N g f t c M (up ν 300 51 0) := tlR_fr h (by simp (disch := omega) only [bd_some, lm_e, if_pos, if_neg, up_ne, up_at, upf_same, upf_ne, reduceIte, or_true, true_or, Int.reduceToNat, Int.toNat_natCast, tn100, tn200]) (by simp (disch := omega) only [bd_some, lm_e, if_pos, if_neg, up_ne, up_at, upf_same, upf_ne, reduceIte, or_true, true_or, Int.reduceToNat, Int.toNat_natCast, tn100, tn200]) (by simp (disch := omega) only [bd_some, lm_e, if_pos, if_neg, up_ne, up_at, upf_same, upf_ne, reduceIte, or_true, true_or, Int.reduceToNat, Int.toNat_natCast, tn100, tn200]) (by simp (disch := omega) only [bd_some, lm_e, if_pos, if_neg, up_ne, up_at, upf_same, upf_ne, reduceIte, or_true, true_or, Int.reduceToNat, Int.toNat_natCast, tn100, tn200]) (by simp (disch := omega) only [bd_some, lm_e, if_pos, if_neg, up_ne, up_at, upf_same, upf_ne, reduceIte, or_true, true_or, Int.reduceToNat, Int.toNat_natCast, tn100, tn200]) (by simp (disch := omega) only [bd_some, lm_e, if_pos, if_neg, up_ne, up_at, upf_same, upf_ne, reduceIte, or_true, true_or, Int.reduceToNat, Int.toNat_natCast, tn100, tn200])
  obtain ⟨ν1, B, a1, a2, a3⟩ := r_points (G := G) N 64 0 0 (up ν 300 51 0) (by omega) (by omega) h0 ⟨by simp (disch := omega) only [bd_some, lm_e, if_pos, if_neg, up_ne, up_at, upf_same, upf_ne, reduceIte, or_true, true_or, Int.reduceToNat, Int.toNat_natCast, tn100, tn200]; rfl, by omega, fun i j _ hj => by omega, fun d => ⟨fun ⟨j, hj, _⟩ => by omega, fun ⟨j, hj, _⟩ => by omega⟩⟩ (by omega)
  rw [show ((0 : Nat) : Int) = 0 from rfl] at a1
  have h1 := tlR_P h0 a3
  have hB := a2.2.1
  obtain ⟨ν2, b1, b2, -, b4⟩ := r_init (G := G) hB B 64 0 ν1 (by omega) (by omega) a2.1
  rw [show ((0 : Nat) : Int) = 0 from rfl] at b1
  have h2 : tlR N g f t c M ν2 := tlR_fr h1 (by rw [b2 300 (by omega)]) (b2 331 (by omega)) (b2 332 (by omega)) (b2 333 (by omega)) (b2 334 (by omega)) (b2 335 (by omega))
  have a2' : ptS ν2 B (ourP (fun i => M i ∧ g i = G) f t N) := by
    unfold ptS
    rw [b2 300 (by omega), b2 336 (by omega)]
    exact a2
  have t2 : tD B (DD ν2) := by
    refine ⟨fun a ha => ?_, fun a b ha hb => ?_⟩
    · rw [b4 a a (by omega) ha ha]
      unfold D0
      rw [if_pos (Int.le_refl _)]
    · rw [b4 a b (by omega) ha hb]
      unfold D0
      split
      · right; omega
      · left; rfl
  have k2 : ∀ y, FWs B (DD ν2) y ↔ okP B (ν2 336) f t c (fun i => M i ∧ g i = G) 0 y := by
    intro y
    rw [b2 336 (by omega), FWs_cong (fun i j hi hj => b4 i j (by omega) hi hj) y]
    constructor
    · intro q
      refine ⟨fun a b ha hb hp => ?_, fun i hi => by omega⟩
      have e : D0 (ν1 336) a b = 0 := by unfold D0; rw [if_pos hp]
      have := q a b ha hb (by rw [e]; decide)
      omega
    · rintro ⟨q, -⟩ a b ha hb hf
      have hp : ν1 336 b ≤ ν1 336 a := by
        by_cases z : ν1 336 b ≤ ν1 336 a
        · exact z
        · exact absurd (show D0 (ν1 336) a b = 268435456 by unfold D0; rw [if_neg z]) hf
      have e : D0 (ν1 336) a b = 0 := by unfold D0; rw [if_pos hp]
      have := q a b ha hb hp
      omega
  obtain ⟨ν3, c1, c2, c3, c4⟩ := r_tal (G := G) (B := B) (P := ourP (fun i => M i ∧ g i = G) f t N) (fun i i1 i2 i3 => ⟨⟨i, i1, ⟨i2, i3⟩, Or.inl rfl⟩, ⟨i, i1, ⟨i2, i3⟩, Or.inr rfl⟩⟩) N 64 0 ν2 (by omega) (by omega) h2 a2' t2 k2
  rw [show ((0 : Nat) : Int) = 0 from rfl] at c1
  have F0 : FWi B 0 (DD ν3) := by
    refine ⟨c3.1, fun k a b hk => by omega, fun a b ha hb => ?_⟩
    rcases c3.2 a b ha hb with e | e
    · exact Or.inl e
    · refine Or.inr ⟨fun _ => False, fun k hk => hk.elim, ?_⟩
      show -(30 * ((0 : Int) + 1)) ≤ _ ∧ _ ≤ 30 * ((0 : Int) + 1)
      omega
  obtain ⟨r, ν4, d1, d2, d3⟩ := r_fw hB B 64 0 ν3 (by omega) (by omega) (by rw [c2 300 (by omega)]; exact a2'.1) F0
  rw [show ((0 : Nat) : Int) = 0 from rfl] at d1
  have hp := a2'.2.2
  have hr : r = b2i (feas (N : Int) g f t c M G) := by
    rw [d3]
    refine b2i_cong ⟨?_, ?_⟩
    · rintro ⟨y, hy⟩
      obtain ⟨y1, y2⟩ := (c4 y).mp hy
      refine ⟨fun d => y (idxR (ν2 336) B d), fun d e hd he hde => ?_, fun i i1 i2 i3 => ?_⟩
      · obtain ⟨i, i1, i2, i3, i4⟩ := hd
        obtain ⟨j, j1, j2, j3, j4⟩ := he
        obtain ⟨a, a1', a2''⟩ := (hp.2 d).mpr ⟨i, by omega, ⟨i2, i3⟩, i4⟩
        obtain ⟨b, b1', b2''⟩ := (hp.2 e).mpr ⟨j, by omega, ⟨j2, j3⟩, j4⟩
        show y (idxR (ν2 336) B d) ≤ y (idxR (ν2 336) B e)
        rw [← a2'', ← b2'', idxR_e2 B hp.1 a a1', idxR_e2 B hp.1 b b1']
        exact y1 b a b1' a1' (by omega)
      · obtain ⟨a, a1', a2''⟩ := (hp.2 (f i)).mpr ⟨i, by omega, ⟨i2, i3⟩, Or.inl rfl⟩
        obtain ⟨b, b1', b2''⟩ := (hp.2 (t i + 1)).mpr ⟨i, by omega, ⟨i2, i3⟩, Or.inr rfl⟩
        show y (idxR (ν2 336) B (t i + 1)) - y (idxR (ν2 336) B (f i)) = c i
        have q := y2 i (by omega) ⟨i2, i3⟩ a b a1' b1' a2'' b2''
        rw [← a2'', ← b2'', idxR_e2 B hp.1 a a1', idxR_e2 B hp.1 b b1']
        exact q
    · rintro ⟨x, x1, x2⟩
      have hbd : ∀ j, j < B → borderP (N : Int) g f t M G (ν2 336 j) := fun j hj => by
        obtain ⟨i, i1, i2, i3⟩ := (hp.2 (ν2 336 j)).mp ⟨j, hj, rfl⟩
        exact ⟨i, by omega, i2.1, i2.2, i3⟩
      refine ⟨fun j => x (ν2 336 j), (c4 _).mpr ⟨fun a b ha hb hle => x1 _ _ (hbd b hb) (hbd a ha) hle, fun i i1 i2 a b ha hb pa pb => ?_⟩⟩
      show x (ν2 336 b) - x (ν2 336 a) = c i
      rw [pa, pb]
      exact x2 i (by omega) i2.1 i2.2
  refine ⟨ν4, ?_, ⟨fun a y1 y2 y3 => ?_, fun j hj => ?_⟩⟩
  · unfold f_X11_canBe
    rw [lm_e, a1, b1, c1, d1, hr]
  · rw [d2 a y3, c2 a y3, b2 a y3, a3.1 a y2 y1]
    simp (disch := omega) only [bd_some, lm_e, if_pos, if_neg, up_ne, up_at, upf_same, upf_ne, reduceIte, or_true, true_or, Int.reduceToNat, Int.toNat_natCast, tn100, tn200]
  · rw [d2 300 (by omega), c2 300 (by omega), b2 300 (by omega), a3.2 j hj]
    simp (disch := omega) only [bd_some, lm_e, if_pos, if_neg, up_ne, up_at, upf_same, upf_ne, reduceIte, or_true, true_or, Int.reduceToNat, Int.toNat_natCast, tn100, tn200]
theorem r_all : ∀ (d n v : Nat) (ν : Mem), v + d = 6 → d + 1 < n → tlR N g f t c M ν → ∃ ν', f_X11_canBe__4 n 1 (v : Int) ν = some (b2i (∀ G : Int, (v : Int) ≤ G → G < 6 → feas (N : Int) g f t c M G), ν') ∧ qR ν ν'
  | 0, n + 1, v, ν, h1, h2, h3 => by
    refine ⟨ν, ?_, qR_rf ν⟩
    rw [f_X11_canBe__4_e, if_pos (by omega), if_pos (Or.inr rfl), b2i_t (fun G g1 g2 => by omega)]
  | d + 1, n + 2, v, ν, h1, h2, h3 => by
    obtain ⟨ν1, a1, a2⟩ := r_canBe (G := (v : Int)) h3
    rw [f_X11_canBe__4_e, if_neg (by omega), if_neg (by decide), a1, bd_some, if_pos (by omega)]
    by_cases hf : feas (N : Int) g f t c M (v : Int)
    · obtain ⟨ν', q1, q2⟩ := r_all d (n + 1) (v + 1) ν1 (by omega) (by omega) (tlR_q h3 a2)
      refine ⟨ν', ?_, qR_tr a2 q2⟩
      rw [b2i_t hf, show (v : Int) + 1 = ((v + 1 : Nat) : Int) by omega, q1]
      refine congrArg (fun z => some (z, ν')) (b2i_cong ⟨fun h G g1 g2 => ?_, fun h G g1 g2 => h G (by omega) g2⟩)
      by_cases e : G = (v : Int)
      · rw [e]; exact hf
      · exact h G (by omega) g2
    · refine ⟨ν1, ?_, a2⟩
      rw [b2i_f hf, b2i_f (p := ∀ G : Int, (v : Int) ≤ G → G < 6 → feas (N : Int) g f t c M G) (fun h => hf (h (v : Int) (Int.le_refl _) (by omega))), f_X11_canBe__4_e]
      by_cases e : 6 ≤ (v : Int) + 1
      · rw [if_pos e, if_pos (Or.inl rfl)]
      · rw [if_neg e, if_pos rfl, if_pos (Or.inl rfl)]
theorem r_all0 {ν : Mem} (h : tlR N g f t c M ν) : ∃ ν', f_X11_canBe_ ν = some (b2i (agr (N : Int) g f t c M), ν') ∧ qR ν ν' := by
  obtain ⟨ν', q1, q2⟩ := r_all 6 64 0 ν rfl (by decide) h
  exact ⟨ν', q1, q2⟩
end QR
