/-! THE KEPT, of two memories -/
def Iplan2 (p p' : Int) (μ ν : Mem) : Prop :=
  p' = p ∧ 0 ≤ p ∧ p ≤ 5 ∧ ∀ k : Nat, (k : Int) < p → μ (45 + k) 0 = ν 325 k ∧ μ (45 + k) 1 = ν 326 k ∧ μ (45 + k) 2 = ν 327 k ∧ μ (45 + k) 3 = ν 328 k
def Inv2 (μ ν : Mem) : Prop :=
  Iboat (μ 2 2) (ν 300 3) (μ 2 3) (ν 300 15) (μ 14) (μ 15) (ν 306) (ν 307) ∧
  Ispell (μ 1 3) (ν 300 4) (μ 9) (μ 10) (μ 11) (ν 308) (ν 309) (ν 310) ∧
  Iruns (μ 1 3) (μ 9) (μ 10) (μ 11) (μ 1 6) (μ 12) (μ 13) ∧
  Itape (μ 3 1) (ν 300 19) (μ 16) (ν 311) ∧
  Itab (μ 17) (ν 312) ∧
  Isite2 μ ν ∧ Irefs μ ∧
  Iplan2 (μ 7 17) (ν 300 33) μ ν ∧
  Itally (μ 8 5) (ν 300 45) (μ 32) (μ 33) (μ 34) (μ 35) (ν 331) (ν 332) (ν 333) (ν 334) ∧
  Iq (μ 8 5) (μ 8 7) (μ 8 6) (μ 32) (μ 33) (μ 34) (μ 35)
theorem Inv_2 {μ : Mem} : Inv μ ↔ Inv2 μ μ := by
  constructor
  · rintro ⟨a1, a2, a3, a4, a5, a6, a7⟩
    exact ⟨a1, a2, a3, a4, a5, Isite_2.mp a6, a7⟩
  · rintro ⟨a1, a2, a3, a4, a5, a6, a7⟩
    exact ⟨a1, a2, a3, a4, a5, Isite_2.mpr a6, a7⟩
theorem Iplan2_fr {p p' : Int} {μ μ' ν ν' : Mem} (h : Iplan2 p p' μ ν) (hc : ∀ a, 45 ≤ a → a < 50 → μ' a = μ a) (hr : ∀ a, 325 ≤ a → a ≤ 328 → ν' a = ν a) : Iplan2 p p' μ' ν' := by
  obtain ⟨h1, h2, h3, h4⟩ := h
  refine ⟨h1, h2, h3, fun k hk => ?_⟩
  rw [hc (45 + k) (by omega) (by omega), hr 325 (by omega) (by omega), hr 326 (by omega) (by omega), hr 327 (by omega) (by omega), hr 328 (by omega) (by omega)]
  exact h4 k hk
theorem Inv2_mix {μ ν μ' ν' : Mem} (h : Inv2 μ ν) (hc : ∀ a, a < 300 → μ' a = μ a) (hr : ∀ a, 300 ≤ a → ν' a = ν a) : Inv2 μ' ν' := by
  obtain ⟨a1, a2, a3, a4, a5, a6, a7, a8, a9, a10⟩ := h
  unfold Inv2
  have b6 : Isite2 μ' ν' := Isite2_fr a6 (fun a ha => hc a (by unfold sC at ha; omega)) (fun a ha => hr a (by unfold sR at ha; omega)) (by rw [hr 300 (by omega)]) (by rw [hr 300 (by omega)]) (by rw [hr 300 (by omega)]) (by rw [hr 300 (by omega)]) (by rw [hr 300 (by omega)])
  have b7 : Irefs μ' := Irefs_fr a7 (hc _ (by omega)) (hc _ (by omega)) (hc _ (by omega)) (hc _ (by omega))
  rw [hc 2 (by omega), hc 14 (by omega), hc 15 (by omega), hr 300 (by omega), hr 306 (by omega), hr 307 (by omega), hc 1 (by omega), hc 9 (by omega), hc 10 (by omega), hc 11 (by omega), hr 308 (by omega), hr 309 (by omega), hr 310 (by omega), hc 12 (by omega), hc 13 (by omega), hc 3 (by omega), hc 16 (by omega), hr 311 (by omega), hc 17 (by omega), hr 312 (by omega), hc 7 (by omega), hc 8 (by omega), hc 32 (by omega), hc 33 (by omega), hc 34 (by omega), hc 35 (by omega), hr 331 (by omega), hr 332 (by omega), hr 333 (by omega), hr 334 (by omega)]
  exact ⟨a1, a2, a3, a4, a5, b6, b7, Iplan2_fr a8 (fun a h1 h2 => hc a (by omega)) (fun a h1 h2 => hr a (by omega)), a9, a10⟩
/-- what a pair of calls does to two memories -/
def Step2 (f g : Mem → Option (Int × Mem)) (μ ν : Mem) : Prop :=
  wp (f μ) (fun r μ' => (∀ a, 300 ≤ a → μ' a = μ a) ∧ μ' 90 = μ 90 ∧ wp (g ν) (fun r2 ν' => r2 = r ∧ (∀ a, a < 300 → ν' a = ν a) ∧ Inv2 μ' ν'))
theorem step2_of {f g : Mem → Option (Int × Mem)} {μ : Mem} (h : Inv μ) (hs : ∀ ν, Inv2 μ ν → Step2 f g μ ν) : Same0 Inv f g μ := by
  have h2 := Inv_2.mp h
  obtain ⟨r, μ1, e1, k1, k2, -⟩ := wp_some (hs μ h2)
  have h3 : Inv2 μ μ1 := Inv2_mix h2 (fun _ _ => rfl) k1
  obtain ⟨r', μ1', e1', -, -, k3⟩ := wp_some (hs μ1 h3)
  have he := e1.symm.trans e1'
  cases he
  obtain ⟨r2, ν', e2, e3, e4, e5⟩ := wp_some k3
  subst e3
  refine ⟨r2, μ1, ν', e1, e2, k2, e4 90 (by omega), Inv_2.mpr (Inv2_mix e5 e4 (fun _ _ => rfl))⟩
/-! SPELLS: is a day of this kind -/
def isOnF (n : Int) (k f t : Nat → Int) (kind day v : Int) : Prop := ∃ i : Nat, v ≤ (i : Int) ∧ (i : Int) < n ∧ k i = kind ∧ f i ≤ day ∧ day ≤ t i
theorem isOnF_0 {n : Int} {k f t : Nat → Int} {kind day : Int} : isOnF n k f t kind day 0 ↔ isOnP n k f t kind day := by
  constructor
  · rintro ⟨i, -, h⟩; exact ⟨i, h⟩
  · rintro ⟨i, h⟩; exact ⟨i, by omega, h⟩
theorem isOnF_t {n : Int} {k f t : Nat → Int} {kind day v : Int} (h0 : 0 ≤ v) (h1 : v < n) (h2 : k v.toNat = kind ∧ f v.toNat ≤ day ∧ day ≤ t v.toNat) : isOnF n k f t kind day v := ⟨v.toNat, by omega, by omega, h2⟩
theorem isOnF_s {n : Int} {k f t : Nat → Int} {kind day v : Int} (h0 : 0 ≤ v) (h2 : ¬ (k v.toNat = kind ∧ f v.toNat ≤ day ∧ day ≤ t v.toNat)) : isOnF n k f t kind day v ↔ isOnF n k f t kind day (v + 1) := by
  constructor
  · rintro ⟨i, q1, q2, q3⟩
    refine ⟨i, ?_, q2, q3⟩
    by_cases hi : (i : Int) = v
    · exfalso
      apply h2
      rw [← hi]
      simpa using q3
    · omega
  · rintro ⟨i, q1, q2, q3⟩
    exact ⟨i, by omega, q2, q3⟩
theorem isOnF_end {n : Int} {k f t : Nat → Int} {kind day v : Int} (h : n ≤ v) : ¬ isOnF n k f t kind day v := by
  rintro ⟨i, q1, q2, q3⟩
  omega
theorem e_isOn_2 {μ : Mem} (h2 : μ 1 3 ≤ 40) (kind day : Int) : ∀ (d n : Nat) (v : Int), 0 ≤ v → v + (d : Int) = μ 1 3 → d < n → f_X2_isOn_2 n kind day v μ = some (b2i (isOnF (μ 1 3) (μ 9) (μ 10) (μ 11) kind day v), μ)
  | 0, n + 1, v, h0, h1, h3 => by
    rw [f_X2_isOn_2_e, b2i_f (isOnF_end (by omega))]
    simp (disch := omega) only [bd_some, lm_e, if_pos, if_neg, up_ne, up_at, upf_same, upf_ne, reduceIte, or_true, true_or]
  | d + 1, n + 1, v, h0, h1, h3 => by
    rw [f_X2_isOn_2_e]
    have ih := e_isOn_2 h2 kind day d n (v + 1) (by omega) (by omega) (by omega)
    by_cases hc : μ 9 v.toNat = kind
    · by_cases c1 : day < μ 10 v.toNat
      · rw [b2i_cong (isOnF_s h0 (by omega))]
        simp (disch := omega) only [bd_some, lm_e, if_pos, if_neg, up_ne, up_at, upf_same, upf_ne, reduceIte, or_true, true_or]
        exact ih
      by_cases c2 : μ 11 v.toNat < day
      · rw [b2i_cong (isOnF_s h0 (by omega))]
        simp (disch := omega) only [bd_some, lm_e, if_pos, if_neg, up_ne, up_at, upf_same, upf_ne, reduceIte, or_true, true_or]
        exact ih
      · rw [b2i_t (isOnF_t h0 (by omega) (by omega))]
        simp (disch := omega) only [bd_some, lm_e, if_pos, if_neg, up_ne, up_at, upf_same, upf_ne, reduceIte, or_true, true_or]
    · rw [b2i_cong (isOnF_s h0 (by omega))]
      simp (disch := omega) only [bd_some, lm_e, if_pos, if_neg, up_ne, up_at, upf_same, upf_ne, reduceIte, or_true, true_or]
      exact ih
theorem e_isOn {μ : Mem} (h1 : 0 ≤ μ 1 3) (h2 : μ 1 3 ≤ 40) (kind day : Int) : f_X2_isOn μ kind day = some (b2i (isOnP (μ 1 3) (μ 9) (μ 10) (μ 11) kind day), μ) := by
  unfold f_X2_isOn
  rw [e_isOn_2 h2 kind day (μ 1 3).toNat 64 0 (by omega) (by omega) (by omega), b2i_cong isOnF_0]
theorem e_is_1 {μ : Mem} (h2 : μ 300 4 ≤ 40) (kind day : Int) : ∀ (d n : Nat) (v : Int), 0 ≤ v → v + (d : Int) = μ 300 4 → d < n → f_X11_is_5 n kind day 1 v μ = some (1, μ)
  | 0, n + 1, v, h0, h1, h3 => by
    rw [f_X11_is_5_e]
    simp (disch := omega) only [bd_some, lm_e, if_pos, if_neg, up_ne, up_at, upf_same, upf_ne, reduceIte, or_true, true_or]
  | d + 1, n + 1, v, h0, h1, h3 => by
    rw [f_X11_is_5_e]
    simp (disch := omega) only [bd_some, lm_e, if_pos, if_neg, up_ne, up_at, upf_same, upf_ne, reduceIte, or_true, true_or]
    exact e_is_1 h2 kind day d n (v + 1) (by omega) (by omega) (by omega)
theorem e_is_5 {μ : Mem} (h2 : μ 300 4 ≤ 40) (kind day : Int) : ∀ (d n : Nat) (v : Int), 0 ≤ v → v + (d : Int) = μ 300 4 → d < n → f_X11_is_5 n kind day 0 v μ = some (b2i (isOnF (μ 300 4) (μ 308) (μ 309) (μ 310) kind day v), μ)
  | 0, n + 1, v, h0, h1, h3 => by
    rw [f_X11_is_5_e, b2i_f (isOnF_end (by omega))]
    simp (disch := omega) only [bd_some, lm_e, if_pos, if_neg, up_ne, up_at, upf_same, upf_ne, reduceIte, or_true, true_or]
  | d + 1, n + 1, v, h0, h1, h3 => by
    rw [f_X11_is_5_e]
    have ih := e_is_5 h2 kind day d n (v + 1) (by omega) (by omega) (by omega)
    have i1 := e_is_1 h2 kind day d n (v + 1) (by omega) (by omega) (by omega)
    by_cases hc : μ 308 v.toNat = kind
    · by_cases c1 : μ 309 v.toNat ≤ day ∧ day ≤ μ 310 v.toNat
      · rw [b2i_t (isOnF_t h0 (by omega) (by omega))]
        simp (disch := omega) only [f_in_e, b2i_0, bd_some, lm_e, if_pos, if_neg, up_ne, up_at, upf_same, upf_ne, reduceIte, or_true, true_or]
        exact i1
      · rw [b2i_cong (isOnF_s h0 (by omega))]
        simp (disch := omega) only [f_in_e, b2i_0, bd_some, lm_e, if_pos, if_neg, up_ne, up_at, upf_same, upf_ne, reduceIte, or_true, true_or]
        exact ih
    · rw [b2i_cong (isOnF_s h0 (by omega))]
      simp (disch := omega) only [bd_some, lm_e, if_pos, if_neg, up_ne, up_at, upf_same, upf_ne, reduceIte, or_true, true_or]
      exact ih
theorem e_is {μ : Mem} (h1 : 0 ≤ μ 300 4) (h2 : μ 300 4 ≤ 40) (kind day : Int) : f_X11_is μ kind day = some (b2i (isOnP (μ 300 4) (μ 308) (μ 309) (μ 310) kind day), μ) := by
  unfold f_X11_is
  rw [e_is_5 h2 kind day (μ 300 4).toNat 64 0 (by omega) (by omega) (by omega), b2i_cong isOnF_0]
theorem isOn_same {n n' : Int} {k f t k' f' t' : Nat → Int} (h : Ispell n n' k f t k' f' t') (kind day : Int) : isOnP n' k' f' t' kind day ↔ isOnP n k f t kind day := by
  obtain ⟨h1, h2, h3, h4⟩ := h
  subst h1
  constructor
  · rintro ⟨i, q1, q2, q3, q4⟩
    obtain ⟨z1, z2, z3, -⟩ := h4 i q1
    exact ⟨i, q1, by omega, by omega, by omega⟩
  · rintro ⟨i, q1, q2, q3, q4⟩
    obtain ⟨z1, z2, z3, -⟩ := h4 i q1
    exact ⟨i, q1, by omega, by omega, by omega⟩
