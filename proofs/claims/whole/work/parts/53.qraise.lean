/-! QUARREL, the class: rounds of raising -/
def Rz (B : Nat) (E Es : Nat → Nat → Int → Prop) (y z : Nat → Int) (fl : Int) : Prop :=
  (∀ i, i < B → y i ≤ z i) ∧ (∀ m, solE B E m → (∀ i, i < B → y i ≤ m i) → ∀ i, i < B → z i ≤ m i) ∧ (∀ u v w, Es u v w → y u + w ≤ z v) ∧ ((fl = 0 ∧ ∀ i, i < B → z i = y i) ∨ (fl = 1 ∧ ∃ i, i < B ∧ y i < z i))
theorem Rz_0 {B : Nat} {E Es : Nat → Nat → Int → Prop} {y : Nat → Int} (h : ∀ u v w, ¬ Es u v w) : Rz B E Es y y 0 :=
  ⟨fun _ _ => Int.le_refl _, fun _ _ h => h, fun u v w x => absurd x (h u v w), Or.inl ⟨rfl, fun _ _ => rfl⟩⟩
theorem Rz_up {B : Nat} {E Es Es' : Nat → Nat → Int → Prop} {y z : Nat → Int} {fl : Int} {u v : Nat} {w : Int} (h : Rz B E Es y z fl) (he : E u v w) (hu : u < B) (hv : v < B) (hEs : ∀ a b x, Es a b x → b < B) (hEs' : ∀ a b x, Es' a b x → Es a b x ∨ (a = u ∧ b = v ∧ x = w)) (hc : z v < z u + w) : Rz B E Es' y (upf z v (z u + w)) 1 := by
  obtain ⟨h1, h2, h3, h4⟩ := h
  refine ⟨fun i hi => ?_, fun m hm hy i hi => ?_, fun a b x hx => ?_, Or.inr ⟨rfl, v, hv, ?_⟩⟩
  · by_cases e : i = v
    · subst e
      rw [upf_same]
      have := h1 i hi
      omega
    · rw [upf_ne e]; exact h1 i hi
  · have q := h2 m hm hy
    by_cases e : i = v
    · subst e
      rw [upf_same]
      have a := hm u i w he
      have b := q u hu
      omega
    · rw [upf_ne e]; exact q i hi
  · rcases hEs' a b x hx with k | ⟨k1, k2, k3⟩
    · have q := h3 a b x k
      by_cases e : b = v
      · subst e
        rw [upf_same]; omega
      · rw [upf_ne e]; exact q
    · subst k1
      subst k2
      subst k3
      rw [upf_same]
      have := h1 a hu
      omega
  · rw [upf_same]
    have := h1 v hv
    omega
theorem Rz_no {B : Nat} {E Es Es' : Nat → Nat → Int → Prop} {y z : Nat → Int} {fl : Int} {u v : Nat} {w : Int} (h : Rz B E Es y z fl) (hu : u < B) (hEs' : ∀ a b x, Es' a b x → Es a b x ∨ (a = u ∧ b = v ∧ x = w)) (hc : z u + w ≤ z v) : Rz B E Es' y z fl := by
  obtain ⟨h1, h2, h3, h4⟩ := h
  refine ⟨h1, h2, fun a b x hx => ?_, h4⟩
  rcases hEs' a b x hx with k | ⟨k1, k2, k3⟩
  · exact h3 a b x k
  · subst k1
    subst k2
    subst k3
    have := h1 a hu
    omega
/-- the edges -/
def eM (B k : Nat) (u v : Nat) (w : Int) : Prop := 1 ≤ v ∧ v < k ∧ v < B ∧ u = v - 1 ∧ w = 0
def eT (o : Nat → Prop) (c : Nat → Int) (bg en : Nat → Nat) (k : Nat) (u v : Nat) (w : Int) : Prop := ∃ i, i < k ∧ o i ∧ ((u = bg i ∧ v = en i ∧ w = c i) ∨ (u = en i ∧ v = bg i ∧ w = -(c i)))
def eA (B N : Nat) (o : Nat → Prop) (c : Nat → Int) (bg en : Nat → Nat) (u v : Nat) (w : Int) : Prop := eM B B u v w ∨ eT o c bg en N u v w
theorem zor01 : zor 0 0 = 0 ∧ zor 0 1 = 1 ∧ zor 1 0 = 1 ∧ zor 1 1 = 1 := by decide +kernel
theorem e_mono {B : Nat} {E : Nat → Nat → Int → Prop} {y : Nat → Int} (hB : B ≤ 40) (hE : ∀ u v w, eM B B u v w → E u v w) {u K : Int} (hK : K ≤ 100000) : ∀ (e n v : Nat) (fl : Int) (μ : Mem), 1 ≤ v → (v + e = B ∨ (e = 0 ∧ B ≤ v)) → e < n → μ 8 10 = (B : Int) → Rz B E (eM B v) y (μ 37) fl → (∀ i, i < B → 0 ≤ μ 37 i ∧ μ 37 i ≤ K) → ∃ (μ' : Mem) (fl' : Int), f_X8_raiseNumbers_4 n u fl (v : Int) μ = f_X8_raiseNumbers_36 64 u fl' 0 μ' ∧ (∀ b, b ≠ 37 → μ' b = μ b) ∧ Rz B E (eM B B) y (μ' 37) fl' ∧ (∀ i, i < B → 0 ≤ μ' 37 i ∧ μ' 37 i ≤ K)
  | 0, n + 1, v, fl, μ, h1, h2, h3, h4, h5, h6 => by
    refine ⟨μ, fl, ?_, fun _ _ => rfl, ?_, h6⟩
    · rw [f_X8_raiseNumbers_4_e, if_pos (by omega)]
    · refine ⟨h5.1, h5.2.1, fun a b x hx => h5.2.2.1 a b x ?_, h5.2.2.2⟩
      obtain ⟨x1, x2, x3, x4⟩ := hx
      exact ⟨x1, by omega, x3, x4⟩
  | e + 1, n + 1, v, fl, μ, h1, h2, h3, h4, h5, h6 => by
    have hv : v < B := by omega
    have hed : E (v - 1) v 0 := hE _ _ _ ⟨h1, hv, hv, rfl, rfl⟩
    have hsub : ∀ a b x, eM B (v + 1) a b x → eM B v a b x ∨ (a = v - 1 ∧ b = v ∧ x = 0) := by
      rintro a b x ⟨x1, x2, x3, x4, x5⟩
      by_cases eb : b = v
      · exact Or.inr ⟨by omega, eb, x5⟩
      · exact Or.inl ⟨x1, by omega, x3, x4, x5⟩
    have hin : ∀ a b x, eM B v a b x → b < B := fun a b x q => q.2.2.1
    have b1 := h6 (v - 1) (by omega)
    have b2 := h6 v hv
    have hfl : fl = 0 ∨ fl = 1 := by
      rcases h5.2.2.2 with q | q
      · exact Or.inl q.1
      · exact Or.inr q.1
    rw [f_X8_raiseNumbers_4_e, if_neg (by omega), if_pos (by omega), show ((v : Int) - 1).toNat = v - 1 by omega]
    unfold f_X8_raiseTo
    rw [if_pos (by omega), Int.toNat_natCast]
    by_cases c : μ 37 v < μ 37 (v - 1)
    · have hz : zor fl 1 = 1 := by rcases hfl with q | q <;> subst q <;> decide +kernel
      have R := Rz_up (Es' := eM B (v + 1)) h5 hed (by omega) hv hin hsub (by omega)
      rw [Int.add_zero] at R
      obtain ⟨μ', fl', q1, q2, q3, q4⟩ := e_mono (u := u) hB hE hK e n (v + 1) 1 (up μ 37 v (μ 37 (v - 1))) (by omega) (by omega) (by omega) (by simp (disch := omega) only [bd_some, lm_e, if_pos, if_neg, up_ne, up_at, upf_same, upf_ne, reduceIte, or_true, true_or, Int.reduceToNat, Int.toNat_natCast, tn100, tn200]; exact h4) (by simp (disch := omega) only [bd_some, lm_e, if_pos, if_neg, up_ne, up_at, upf_same, upf_ne, reduceIte, or_true, true_or, Int.reduceToNat, Int.toNat_natCast, tn100, tn200]; exact R) (fun i hi => by
        by_cases ei : i = v
        · subst ei
          simp (disch := omega) only [bd_some, lm_e, if_pos, if_neg, up_ne, up_at, upf_same, upf_ne, reduceIte, or_true, true_or, Int.reduceToNat, Int.toNat_natCast, tn100, tn200]
          exact b1
        · simp (disch := omega) only [bd_some, lm_e, if_pos, if_neg, up_ne, up_at, upf_same, upf_ne, reduceIte, or_true, true_or, Int.reduceToNat, Int.toNat_natCast, tn100, tn200]
          exact h6 i hi)
      refine ⟨μ', fl', ?_, fun b hb => by rw [q2 b hb]; simp (disch := omega) only [bd_some, lm_e, if_pos, if_neg, up_ne, up_at, upf_same, upf_ne, reduceIte, or_true, true_or, Int.reduceToNat, Int.toNat_natCast, tn100, tn200], q3, q4⟩
      rw [if_pos c, lm_e, bd_some, if_pos (by omega), hz, show (v : Int) + 1 = ((v + 1 : Nat) : Int) by omega, q1]
    · have hz : zor fl 0 = fl := by rcases hfl with q | q <;> subst q <;> decide +kernel
      have R := Rz_no (Es' := eM B (v + 1)) (u := v - 1) (v := v) (w := 0) h5 (by omega) hsub (by omega)
      obtain ⟨μ', fl', q1, q2⟩ := e_mono (u := u) hB hE hK e n (v + 1) fl μ (by omega) (by omega) (by omega) h4 R h6
      refine ⟨μ', fl', ?_, q2⟩
      rw [if_neg c, bd_some, if_pos (by omega), hz, show (v : Int) + 1 = ((v + 1 : Nat) : Int) by omega, q1]
section QC
variable {N : Nat} {g f t c : Nat → Int}
theorem e_tal {B : Nat} {E : Nat → Nat → Int → Prop} {y : Nat → Int} {bg en : Nat → Nat} {u : Int} (hB : B ≤ 40) (hu : 0 ≤ u ∧ u < 2147483648) (hE : ∀ a b x, eA B N (mskP u) c bg en a b x → E a b x) {K : Int} (hK : K ≤ 100000) : ∀ (e n v : Nat) (fl : Int) (μ : Mem), v + e = N → e < n → tlC N g f t c μ → (∀ i, i < N → mskP u i → bg i < B ∧ en i < B ∧ μ 38 i = (bg i : Int) ∧ μ 39 i = (en i : Int)) → Rz B E (fun a b x => eM B B a b x ∨ eT (mskP u) c bg en v a b x) y (μ 37) fl → (∀ i, i < B → 0 ≤ μ 37 i ∧ μ 37 i ≤ K + 30 * (v : Int)) → ∃ (μ' : Mem) (fl' : Int), f_X8_raiseNumbers_36 n u fl (v : Int) μ = some (fl', μ') ∧ (∀ b, b ≠ 37 → μ' b = μ b) ∧ Rz B E (eA B N (mskP u) c bg en) y (μ' 37) fl' ∧ (∀ i, i < B → 0 ≤ μ' 37 i ∧ μ' 37 i ≤ K + 30 * (N : Int))
  | 0, n + 1, v, fl, μ, h1, h2, h3, h4, h5, h6 => by
    have hv : v = N := by omega
    subst hv
    refine ⟨μ, fl, ?_, fun _ _ => rfl, h5, h6⟩
    have hfl : fl = 0 ∨ fl = 1 := by
      rcases h5.2.2.2 with q | q
      · exact Or.inl q.1
      · exact Or.inr q.1
    have := h3.1
    rw [f_X8_raiseNumbers_36_e, if_pos (by omega), if_pos hfl]
  | e + 1, n + 1, v, fl, μ, h1, h2, h3, h4, h5, h6 => by
    have hN := h3.1
    have hN2 := h3.2.1
    obtain ⟨r1, r2, r3, r4⟩ := h3.2.2.1 v (by omega)
    have hb := h3.2.2.2 v (by omega)
    rw [f_X8_raiseNumbers_36_e, if_neg (by omega)]
    by_cases o : mskP u v
    case neg =>
      obtain ⟨μ', fl', q1, q2⟩ := e_tal (y := y) hB hu hE hK e n (v + 1) fl μ (by omega) (by omega) h3 h4 ⟨h5.1, h5.2.1, fun a b x hx => h5.2.2.1 a b x (by
        rcases hx with hx | ⟨i, i1, i2, i3⟩
        · exact Or.inl hx
        · by_cases ei : i = v
          · rw [ei] at i2; exact absurd i2 o
          · exact Or.inr ⟨i, by omega, i2, i3⟩), h5.2.2.2⟩ (fun i hi => by have := h6 i hi; omega)
      refine ⟨μ', fl', ?_, q2⟩
      rw [if_pos (msk_f hu.1 hu.2 (by omega) o), if_pos (by omega), show (v : Int) + 1 = ((v + 1 : Nat) : Int) by omega, q1]
    obtain ⟨i1, i2, i3, i4⟩ := h4 v (by omega) o
    have E1 : E (bg v) (en v) (c v) := hE _ _ _ (Or.inr ⟨v, by omega, o, Or.inl ⟨rfl, rfl, rfl⟩⟩)
    have E2 : E (en v) (bg v) (-(c v)) := hE _ _ _ (Or.inr ⟨v, by omega, o, Or.inr ⟨rfl, rfl, rfl⟩⟩)
    have hin0 : ∀ a b x, (eM B B a b x ∨ eT (mskP u) c bg en v a b x) → b < B := by
      rintro a b x (q | ⟨i, q1, q2, q3⟩)
      · exact q.2.2.1
      · have := h4 i (by omega) q2
        rcases q3 with ⟨-, q3, -⟩ | ⟨-, q3, -⟩
        · rw [q3]; exact this.2.1
        · rw [q3]; exact this.1
    have hsub1 : ∀ a b x, ((eM B B a b x ∨ eT (mskP u) c bg en v a b x) ∨ (a = bg v ∧ b = en v ∧ x = c v)) → (eM B B a b x ∨ eT (mskP u) c bg en v a b x) ∨ (a = bg v ∧ b = en v ∧ x = c v) := fun _ _ _ q => q
    have hin1 : ∀ a b x, ((eM B B a b x ∨ eT (mskP u) c bg en v a b x) ∨ (a = bg v ∧ b = en v ∧ x = c v)) → b < B := by
      rintro a b x (q | ⟨-, q, -⟩)
      · exact hin0 a b x q
      · rw [q]; exact i2
    have hsub2 : ∀ a b x, (eM B B a b x ∨ eT (mskP u) c bg en (v + 1) a b x) → ((eM B B a b x ∨ eT (mskP u) c bg en v a b x) ∨ (a = bg v ∧ b = en v ∧ x = c v)) ∨ (a = en v ∧ b = bg v ∧ x = -(c v)) := by
      rintro a b x (q | ⟨i, q1, q2, q3⟩)
      · exact Or.inl (Or.inl (Or.inl q))
      · by_cases ei : i = v
        · subst ei
          rcases q3 with q3 | q3
          · exact Or.inl (Or.inr q3)
          · exact Or.inr q3
        · exact Or.inl (Or.inl (Or.inr ⟨i, by omega, q2, q3⟩))
    have hfl : fl = 0 ∨ fl = 1 := by
      rcases h5.2.2.2 with q | q
      · exact Or.inl q.1
      · exact Or.inr q.1
    have b1 := h6 (bg v) i1
    have b2 := h6 (en v) i2
    -- the first raising
    have st1 : ∃ (μ1 : Mem) (r : Int), f_X8_raiseTo μ (en v : Int) (μ 37 (bg v) + c v) = some (r, μ1) ∧ (∀ b, b ≠ 37 → μ1 b = μ b) ∧ Rz B E (fun a b x => (eM B B a b x ∨ eT (mskP u) c bg en v a b x) ∨ (a = bg v ∧ b = en v ∧ x = c v)) y (μ1 37) (zor fl r) ∧ (∀ i, i < B → 0 ≤ μ1 37 i ∧ μ1 37 i ≤ K + 30 * ((v + 1 : Nat) : Int)) := by
      unfold f_X8_raiseTo
      rw [if_pos (by omega), Int.toNat_natCast]
      by_cases q : μ 37 (en v) < μ 37 (bg v) + c v
      · have hz : zor fl 1 = 1 := by rcases hfl with q | q <;> subst q <;> decide +kernel
        refine ⟨up μ 37 (en v) (μ 37 (bg v) + c v), 1, by rw [if_pos q, lm_e], fun b hb => by simp (disch := omega) only [bd_some, lm_e, if_pos, if_neg, up_ne, up_at, upf_same, upf_ne, reduceIte, or_true, true_or, Int.reduceToNat, Int.toNat_natCast, tn100, tn200], ?_, fun i hi => ?_⟩
        · rw [hz]
          simp (disch := omega) only [bd_some, lm_e, if_pos, if_neg, up_ne, up_at, upf_same, upf_ne, reduceIte, or_true, true_or, Int.reduceToNat, Int.toNat_natCast, tn100, tn200]
          exact Rz_up h5 E1 i1 i2 hin0 hsub1 q
        · by_cases ei : i = en v
          · subst ei
            simp (disch := omega) only [bd_some, lm_e, if_pos, if_neg, up_ne, up_at, upf_same, upf_ne, reduceIte, or_true, true_or, Int.reduceToNat, Int.toNat_natCast, tn100, tn200]
            omega
          · simp (disch := omega) only [bd_some, lm_e, if_pos, if_neg, up_ne, up_at, upf_same, upf_ne, reduceIte, or_true, true_or, Int.reduceToNat, Int.toNat_natCast, tn100, tn200]
            have := h6 i hi
            omega
      · have hz : zor fl 0 = fl := by rcases hfl with q | q <;> subst q <;> decide +kernel
        refine ⟨μ, 0, by rw [if_neg q], fun _ _ => rfl, ?_, fun i hi => by have := h6 i hi; omega⟩
        rw [hz]
        exact Rz_no h5 i1 hsub1 (by omega)
    obtain ⟨μ1, ra, s1, s2, s3, s4⟩ := st1
    have hfl1 : zor fl ra = 0 ∨ zor fl ra = 1 := by
      rcases s3.2.2.2 with q | q
      · exact Or.inl q.1
      · exact Or.inr q.1
    generalize hfe : zor fl ra = fl1 at s3 hfl1
    have d1 := s4 (bg v) i1
    have d2 := s4 (en v) i2
    -- the second
    have st2 : ∃ (μ2 : Mem) (r : Int), f_X8_raiseTo μ1 (bg v : Int) (μ1 37 (en v) - c v) = some (r, μ2) ∧ (∀ b, b ≠ 37 → μ2 b = μ1 b) ∧ Rz B E (fun a b x => eM B B a b x ∨ eT (mskP u) c bg en (v + 1) a b x) y (μ2 37) (zor fl1 r) ∧ (∀ i, i < B → 0 ≤ μ2 37 i ∧ μ2 37 i ≤ K + 30 * ((v + 1 : Nat) : Int)) := by
      unfold f_X8_raiseTo
      rw [if_pos (by omega), Int.toNat_natCast]
      by_cases q : μ1 37 (bg v) < μ1 37 (en v) - c v
      · have hz : zor fl1 1 = 1 := by rcases hfl1 with q | q <;> subst q <;> decide +kernel
        refine ⟨up μ1 37 (bg v) (μ1 37 (en v) - c v), 1, by rw [if_pos q, lm_e], fun b hb => by simp (disch := omega) only [bd_some, lm_e, if_pos, if_neg, up_ne, up_at, upf_same, upf_ne, reduceIte, or_true, true_or, Int.reduceToNat, Int.toNat_natCast, tn100, tn200], ?_, fun i hi => ?_⟩
        · rw [hz]
          simp (disch := omega) only [bd_some, lm_e, if_pos, if_neg, up_ne, up_at, upf_same, upf_ne, reduceIte, or_true, true_or, Int.reduceToNat, Int.toNat_natCast, tn100, tn200]
          have R := Rz_up s3 E2 i2 i1 hin1 hsub2 (by omega)
          rw [show μ1 37 (en v) + -(c v) = μ1 37 (en v) - c v by omega] at R
          exact R
        · by_cases ei : i = bg v
          · subst ei
            simp (disch := omega) only [bd_some, lm_e, if_pos, if_neg, up_ne, up_at, upf_same, upf_ne, reduceIte, or_true, true_or, Int.reduceToNat, Int.toNat_natCast, tn100, tn200]
            omega
          · simp (disch := omega) only [bd_some, lm_e, if_pos, if_neg, up_ne, up_at, upf_same, upf_ne, reduceIte, or_true, true_or, Int.reduceToNat, Int.toNat_natCast, tn100, tn200]
            exact s4 i hi
      · have hz : zor fl1 0 = fl1 := by rcases hfl1 with q | q <;> subst q <;> decide +kernel
        refine ⟨μ1, 0, by rw [if_neg q], fun _ _ => rfl, ?_, s4⟩
        rw [hz]
        exact Rz_no s3 i2 hsub2 (by omega)
    obtain ⟨μ2, rb, w1, w2, w3, w4⟩ := st2
    have fr : ∀ b, b ≠ 37 → μ2 b = μ b := fun b hb => (w2 b hb).trans (s2 b hb)
    obtain ⟨μ', fl', q1, q2, q3, q4⟩ := e_tal (y := y) hB hu hE hK e n (v + 1) (zor fl1 rb) μ2 (by omega) (by omega) (tlC_fr h3 (by rw [fr 8 (by decide)]) (fr 32 (by decide)) (fr 33 (by decide)) (fr 34 (by decide)) (fr 35 (by decide))) (fun i x1 x2 => by rw [fr 38 (by decide), fr 39 (by decide)]; exact h4 i x1 x2) w3 w4
    refine ⟨μ', fl', ?_, fun b hb => (q2 b hb).trans (fr b hb), q3, q4⟩
    have e39 : μ1 39 v = (en v : Int) := by rw [s2 39 (by decide)]; exact i4
    have e38 : μ1 38 v = (bg v : Int) := by rw [s2 38 (by decide)]; exact i3
    have e35 : μ1 35 v = c v := by rw [s2 35 (by decide)]; exact r4
    rw [if_neg (msk_t hu.1 hu.2 (by omega) o), if_pos (by omega), Int.toNat_natCast, i3, i4, r4, if_pos (by omega), Int.toNat_natCast, if_pos (by omega), s1, bd_some, e39, e38, e35, if_pos (by omega), Int.toNat_natCast, if_pos (by omega), w1, bd_some, if_pos (by omega), hfe, show (v : Int) + 1 = ((v + 1 : Nat) : Int) by omega, q1]
end QC
