/-! QUARREL, QUARRELS -/
section QQ
variable {n : Int} {g f t c : Nat → Int}
theorem borderP_cong {M M' : Nat → Prop} {G : Int} (h : ∀ i : Nat, (i : Int) < n → (M i ↔ M' i)) (d : Int) : borderP n g f t M G d ↔ borderP n g f t M' G d := by
  constructor
  · rintro ⟨i, i1, i2, i3⟩
    exact ⟨i, i1, (h i i1).mp i2, i3⟩
  · rintro ⟨i, i1, i2, i3⟩
    exact ⟨i, i1, (h i i1).mpr i2, i3⟩
theorem feas_cong {M M' : Nat → Prop} {G : Int} (h : ∀ i : Nat, (i : Int) < n → (M i ↔ M' i)) : feas n g f t c M G ↔ feas n g f t c M' G := by
  constructor
  · rintro ⟨x, x1, x2⟩
    exact ⟨x, fun d e hd he hde => x1 d e ((borderP_cong h d).mpr hd) ((borderP_cong h e).mpr he) hde, fun i i1 i2 i3 => x2 i i1 ((h i i1).mpr i2) i3⟩
  · rintro ⟨x, x1, x2⟩
    exact ⟨x, fun d e hd he hde => x1 d e ((borderP_cong h d).mp hd) ((borderP_cong h e).mp he) hde, fun i i1 i2 i3 => x2 i i1 ((h i i1).mp i2) i3⟩
theorem agr_cong {M M' : Nat → Prop} (h : ∀ i : Nat, (i : Int) < n → (M i ↔ M' i)) : agr n g f t c M ↔ agr n g f t c M' :=
  ⟨fun q G g1 g2 => (feas_cong h).mp (q G g1 g2), fun q G g1 g2 => (feas_cong h).mpr (q G g1 g2)⟩
theorem qrun_cong : ∀ (k : Nat) {M M' : Nat → Prop}, (∀ i : Nat, (i : Int) < n → (M i ↔ M' i)) → ∀ i : Nat, (i : Int) < n → (qrun n g f t c k M i ↔ qrun n g f t c k M' i)
  | 0, M, M', h, i, hi => h i hi
  | k + 1, M, M', h, i, hi => by
    refine qrun_cong k (fun j hj => ?_) i hi
    rw [h j hj, agr_cong (M := fun x => M x ∧ x ≠ k) (M' := fun x => M' x ∧ x ≠ k) (fun x hx => by rw [h x hx])]
end QQ
section QC
variable {N : Nat} {g f t c : Nat → Int}
theorem msk_clr {w : Int} {k : Nat} (h0 : 0 ≤ w) (h1 : w < 2147483648) (hk : k < 31) : 0 ≤ zand w (zxor (zshl 1 (k : Int)) (-1)) ∧ zand w (zxor (zshl 1 (k : Int)) (-1)) ≤ w ∧ ∀ i, mskP (zand w (zxor (zshl 1 (k : Int)) (-1))) i ↔ mskP w i ∧ i ≠ k := by
  obtain ⟨a, b, d⟩ := zclr h0 h1 hk
  refine ⟨a, b, fun i => ?_⟩
  unfold mskP
  rw [d i]
  simp
  intro _
  exact ⟨fun x y => x y.symm, fun x y => x y.symm⟩
theorem e_judge50 : ∀ (k m : Nat) (w : Int) (μ : Mem), k < m → k ≤ N → 0 ≤ w → w < 1048576 → tlC N g f t c μ → (∀ i, mskP w i → i < N) → ∃ (w' : Int) (μ' : Mem), f_X8_judge_50 m w ((k : Int) - 1) μ = some (0, up μ' 8 6 w') ∧ qC μ μ' ∧ 0 ≤ w' ∧ w' < 1048576 ∧ (∀ i, mskP w' i → i < N) ∧ (∀ i, i < N → (mskP w' i ↔ qrun (N : Int) g f t c k (mskP w) i))
  | 0, m + 1, w, μ, h1, h2, h3, h4, h5, h6 => by
    refine ⟨w, μ, ?_, qC_rf μ, h3, h4, h6, fun i _ => Iff.rfl⟩
    rw [f_X8_judge_50_e, if_pos (by omega), lm_e]
  | k + 1, m + 1, w, μ, h1, h2, h3, h4, h5, h6 => by
    have hN2 := h5.2.1
    have ek : ((k + 1 : Nat) : Int) - 1 = (k : Int) := by omega
    have ek2 : (k : Int) + (-1) = (k : Int) - 1 := by omega
    obtain ⟨r1, r2, r3⟩ := msk_clr (w := w) (k := k) h3 (by omega) (by omega)
    rw [f_X8_judge_50_e, ek, if_neg (by omega)]
    generalize zand w (zxor (zshl 1 (k : Int)) (-1)) = rest at r1 r2 r3
    obtain ⟨μ1, a1, a2⟩ := e_agree0 (w := rest) ⟨r1, by omega⟩ h5
    have hc : agr (N : Int) g f t c (mskP rest) ↔ agr (N : Int) g f t c (fun j => mskP w j ∧ j ≠ k) := agr_cong (fun i _ => r3 i)
    rw [a1, bd_some]
    by_cases ha : agr (N : Int) g f t c (mskP rest)
    · obtain ⟨w', μ', q1, q2, q3, q4, q5, q6⟩ := e_judge50 k m w μ1 (by omega) (by omega) h3 h4 (tlC_q h5 a2) h6
      refine ⟨w', μ', ?_, qC_tr a2 q2, q3, q4, q5, fun i hi => ?_⟩
      · rw [b2i_t ha, if_neg (by decide), if_pos (by omega), ek2, q1]
      · rw [q6 i hi]
        refine qrun_cong k (fun j _ => ?_) i (by omega)
        exact ⟨fun x => ⟨x, fun _ => hc.mp ha⟩, fun x => x.1⟩
    · obtain ⟨w', μ', q1, q2, q3, q4, q5, q6⟩ := e_judge50 k m rest μ1 (by omega) (by omega) r1 (by omega) (tlC_q h5 a2) (fun i hi => h6 i ((r3 i).mp hi).1)
      refine ⟨w', μ', ?_, qC_tr a2 q2, q3, q4, q5, fun i hi => ?_⟩
      · rw [b2i_f ha, if_pos rfl, if_pos (by omega), ek2, q1]
      · rw [q6 i hi]
        refine qrun_cong k (fun j _ => ?_) i (by omega)
        rw [r3 j]
        exact ⟨fun x => ⟨x.1, fun y => absurd y x.2⟩, fun x => ⟨x.1, fun y => ha (hc.mpr (x.2 y))⟩⟩
def qJ (μ μ' : Mem) : Prop := (∀ a, a ≠ 8 → a ≠ 36 → a ≠ 37 → a ≠ 38 → a ≠ 39 → μ' a = μ a) ∧ μ' 8 5 = μ 8 5
theorem e_judge {μ : Mem} (h : tlC N g f t c μ) (hq : Iq (N : Int) (μ 8 7) (μ 8 6) g f t c) : ∃ μ', f_X8_judge μ = some (0, μ') ∧ qJ μ μ' ∧ μ' 8 7 = (N : Int) ∧ Iq (N : Int) (N : Int) (μ' 8 6) g f t c := by
  have hN := h.1
  have hN2 := h.2.1
  unfold f_X8_judge
  by_cases c0 : μ 8 7 = μ 8 5
  · refine ⟨μ, by rw [if_pos c0], ⟨fun _ _ _ _ _ _ => rfl, rfl⟩, by omega, ?_⟩
    rw [show μ 8 7 = (N : Int) by omega] at hq
    exact hq
  · have hp := two_pow_b (show N < 31 by omega)
    have hp1 : 0 < 2 ^ N := Nat.two_pow_pos N
    have hp2 : 2 ^ N ≤ 1048576 := Nat.le_trans (Nat.pow_le_pow_right (by decide) hN2) (by decide)
    have hw : zshl 1 (N : Int) - 1 = ((2 ^ N - 1 : Nat) : Int) := by
      rw [zshl_1 N (by omega)]
      generalize 2 ^ N = z at hp hp1
      omega
    have hm : ∀ i, mskP ((2 ^ N - 1 : Nat) : Int) i ↔ i < N := fun i => by
      unfold mskP
      rw [Int.toNat_natCast, Nat.testBit_two_pow_sub_one, decide_eq_true_eq]
    have hwb : (0 : Int) ≤ ((2 ^ N - 1 : Nat) : Int) ∧ ((2 ^ N - 1 : Nat) : Int) < 1048576 := by
      generalize 2 ^ N = z at hp hp1 hp2
      omega
    have h5 : tlC N g f t c (up (up μ 8 7 (N : Int)) 8 6 0) := tlC_fr h (by simp (disch := omega) only [bd_some, lm_e, if_pos, if_neg, up_ne, up_at, upf_same, upf_ne, reduceIte, or_true, true_or, Int.reduceToNat, Int.toNat_natCast, tn100, tn200]) (by simp (disch := omega) only [bd_some, lm_e, if_pos, if_neg, up_ne, up_at, upf_same, upf_ne, reduceIte, or_true, true_or, Int.reduceToNat, Int.toNat_natCast, tn100, tn200]) (by simp (disch := omega) only [bd_some, lm_e, if_pos, if_neg, up_ne, up_at, upf_same, upf_ne, reduceIte, or_true, true_or, Int.reduceToNat, Int.toNat_natCast, tn100, tn200]) (by simp (disch := omega) only [bd_some, lm_e, if_pos, if_neg, up_ne, up_at, upf_same, upf_ne, reduceIte, or_true, true_or, Int.reduceToNat, Int.toNat_natCast, tn100, tn200]) (by simp (disch := omega) only [bd_some, lm_e, if_pos, if_neg, up_ne, up_at, upf_same, upf_ne, reduceIte, or_true, true_or, Int.reduceToNat, Int.toNat_natCast, tn100, tn200])
    generalize ((2 ^ N - 1 : Nat) : Int) = w at hw hm hwb
    obtain ⟨μ1, a1, a2⟩ := e_agree0 (w := w) ⟨hwb.1, by omega⟩ h5
    have hc : agr (N : Int) g f t c (mskP w) ↔ agr (N : Int) g f t c (fun j => (j : Int) < (N : Int)) := agr_cong (fun i hi => by rw [hm i]; omega)
    have e5 : up (up μ 8 7 (N : Int)) 8 6 0 8 5 = (N : Int) := by simp (disch := omega) only [bd_some, lm_e, if_pos, if_neg, up_ne, up_at, upf_same, upf_ne, reduceIte, or_true, true_or, Int.reduceToNat, Int.toNat_natCast, tn100, tn200]; exact hN
    rw [if_neg c0, hN, lm_e, lm_e, e5, hw, if_pos (by omega), a1, bd_some]
    have fr : ∀ a, a ≠ 8 → a ≠ 36 → a ≠ 37 → a ≠ 38 → a ≠ 39 → μ1 a = μ a := fun a y1 y2 y3 y4 y5 => by
      rw [a2.1 a y1 y2 y3 y4 y5]
      simp (disch := omega) only [bd_some, lm_e, if_pos, if_neg, up_ne, up_at, upf_same, upf_ne, reduceIte, or_true, true_or, Int.reduceToNat, Int.toNat_natCast, tn100, tn200]
    have e15 : μ1 8 5 = (N : Int) := by rw [a2.2 5 (by decide)]; exact e5
    have e17 : μ1 8 7 = (N : Int) := by rw [a2.2 7 (by decide)]; simp (disch := omega) only [bd_some, lm_e, if_pos, if_neg, up_ne, up_at, upf_same, upf_ne, reduceIte, or_true, true_or, Int.reduceToNat, Int.toNat_natCast, tn100, tn200]
    by_cases ha : agr (N : Int) g f t c (mskP w)
    · refine ⟨μ1, by rw [b2i_t ha, if_neg (by decide)], ⟨fr, by rw [e15, hN]⟩, e17, by omega, Int.le_refl _, fun _ => ?_⟩
      rw [show μ1 8 6 = 0 by rw [a2.2 6 (by decide)]; simp (disch := omega) only [bd_some, lm_e, if_pos, if_neg, up_ne, up_at, upf_same, upf_ne, reduceIte, or_true, true_or, Int.reduceToNat, Int.toNat_natCast, tn100, tn200]]
      refine ⟨by decide, by decide, fun i => ?_⟩
      constructor
      · intro x
        simp at x
      · rintro ⟨-, x, -⟩
        exact absurd (hc.mp ha) x
    · obtain ⟨w', μ', q1, q2, q3, q4, q5, q6⟩ := e_judge50 N 64 w μ1 (by omega) (Nat.le_refl N) hwb.1 hwb.2 (tlC_q h5 a2) (fun i hi => (hm i).mp hi)
      refine ⟨up μ' 8 6 w', ?_, ⟨fun a y1 y2 y3 y4 y5 => ?_, ?_⟩, ?_, by omega, Int.le_refl _, fun _ => ?_⟩
      · rw [b2i_f ha, if_pos rfl, e15, if_pos (by omega), q1]
      · rw [up_ne y1, q2.1 a y1 y2 y3 y4 y5]
        exact fr a y1 y2 y3 y4 y5
      · simp (disch := omega) only [bd_some, lm_e, if_pos, if_neg, up_ne, up_at, upf_same, upf_ne, reduceIte, or_true, true_or, Int.reduceToNat, Int.toNat_natCast, tn100, tn200]
        rw [q2.2 5 (by decide), e15, hN]
      · simp (disch := omega) only [bd_some, lm_e, if_pos, if_neg, up_ne, up_at, upf_same, upf_ne, reduceIte, or_true, true_or, Int.reduceToNat, Int.toNat_natCast, tn100, tn200]
        rw [q2.2 7 (by decide), e17]
      · simp (disch := omega) only [bd_some, lm_e, if_pos, if_neg, up_ne, up_at, upf_same, upf_ne, reduceIte, or_true, true_or, Int.reduceToNat, Int.toNat_natCast, tn100, tn200]
        refine ⟨q3, q4, fun i => ?_⟩
        have qq : ∀ i : Nat, (i : Int) < (N : Int) → (qrun (N : Int) g f t c N (mskP w) i ↔ qrun (N : Int) g f t c (N : Int).toNat (fun j => (j : Int) < (N : Int)) i) := by
          rw [Int.toNat_natCast]
          exact qrun_cong N (fun i hi => by rw [hm i]; omega)
        constructor
        · intro x
          have hi : i < N := q5 i x
          exact ⟨by omega, fun y => ha (hc.mpr y), (qq i (by omega)).mp ((q6 i hi).mp x)⟩
        · rintro ⟨x1, x2, x3⟩
          exact (q6 i (by omega)).mpr ((qq i x1).mpr x3)
end QC
section QR
variable {N : Nat} {g f t c : Nat → Int}
theorem z01_11 : zand 0 1 = 0 ∧ zand 1 1 = 1 := by decide +kernel
def qS (ν ν' : Mem) : Prop := (∀ a, a ≠ 300 → a ≠ 335 → a ≠ 336 → ¬ (338 ≤ a ∧ a < 378) → ν' a = ν a) ∧ (∀ j, j ≠ 51 → ν' 300 j = ν 300 j)
theorem qS_tr {a b d : Mem} (h : qS a b) (k : qS b d) : qS a d := ⟨fun x h1 h2 h3 h4 => (k.1 x h1 h2 h3 h4).trans (h.1 x h1 h2 h3 h4), fun j hj => (k.2 j hj).trans (h.2 j hj)⟩
theorem qS_R {a b : Mem} (h : qR a b) : qS a b := ⟨fun x h1 _ h3 h4 => h.1 x h1 h3 h4, h.2⟩
theorem tlR_M {M M' : Nat → Prop} {ν ν' : Mem} (h : tlR N g f t c M ν) (h5 : ν' 300 45 = ν 300 45) (h1 : ν' 331 = ν 331) (h2 : ν' 332 = ν 332) (h3 : ν' 333 = ν 333) (h4 : ν' 334 = ν 334) (h6 : ∀ i, i < N → (M' i ↔ ν' 335 i ≠ 0)) : tlR N g f t c M' ν' := by
  unfold tlR
  rw [h5, h1, h2, h3, h4]
  exact ⟨h.1, h.2.1, h.2.2.1, h.2.2.2.1, h6⟩
theorem r_quar54 : ∀ (k m : Nat) (cnt : Int) (M : Nat → Prop) (ν : Mem), k < m → k ≤ N → tlR N g f t c M ν → (∀ i, i < k → M i) → 0 ≤ cnt - (k : Int) → cnt ≤ 20 → ∃ (r : Int) (ν' : Mem), f_X11_quarrel_54 m cnt ((k : Int) - 1) ν = some (r, ν') ∧ qS ν ν' ∧ tlR N g f t c (qrun (N : Int) g f t c k M) ν' ∧ r - countTo (qrun (N : Int) g f t c k M) N = cnt - countTo M N
  | 0, m + 1, cnt, M, ν, h1, h2, h3, h4, h5, h6 => by
    refine ⟨cnt, ν, ?_, ⟨fun _ _ _ _ _ => rfl, fun _ _ => rfl⟩, h3, rfl⟩
    rw [f_X11_quarrel_54_e, if_pos (by omega)]
  | k + 1, m + 1, cnt, M, ν, h1, h2, h3, h4, h5, h6 => by
    have hN2 := h3.2.1
    have ek : ((k + 1 : Nat) : Int) - 1 = (k : Int) := by omega
    have ek2 : (k : Int) + (-1) = (k : Int) - 1 := by omega
    have hM := h3.2.2.2.2
    -- without it
    have t0 : tlR N g f t c (fun j => M j ∧ j ≠ k) (up ν 335 k 0) := tlR_M h3 (by simp (disch := omega) only [bd_some, lm_e, if_pos, if_neg, up_ne, up_at, upf_same, upf_ne, reduceIte, or_true, true_or, Int.reduceToNat, Int.toNat_natCast, tn100, tn200]) (by simp (disch := omega) only [bd_some, lm_e, if_pos, if_neg, up_ne, up_at, upf_same, upf_ne, reduceIte, or_true, true_or, Int.reduceToNat, Int.toNat_natCast, tn100, tn200]) (by simp (disch := omega) only [bd_some, lm_e, if_pos, if_neg, up_ne, up_at, upf_same, upf_ne, reduceIte, or_true, true_or, Int.reduceToNat, Int.toNat_natCast, tn100, tn200]) (by simp (disch := omega) only [bd_some, lm_e, if_pos, if_neg, up_ne, up_at, upf_same, upf_ne, reduceIte, or_true, true_or, Int.reduceToNat, Int.toNat_natCast, tn100, tn200]) (by simp (disch := omega) only [bd_some, lm_e, if_pos, if_neg, up_ne, up_at, upf_same, upf_ne, reduceIte, or_true, true_or, Int.reduceToNat, Int.toNat_natCast, tn100, tn200]) (fun i hi => by
      by_cases e : i = k
      · subst e
        simp (disch := omega) only [bd_some, lm_e, if_pos, if_neg, up_ne, up_at, upf_same, upf_ne, reduceIte, or_true, true_or, Int.reduceToNat, Int.toNat_natCast, tn100, tn200]
        exact ⟨fun x => absurd rfl x.2, fun x => absurd rfl x⟩
      · simp (disch := omega) only [bd_some, lm_e, if_pos, if_neg, up_ne, up_at, upf_same, upf_ne, reduceIte, or_true, true_or, Int.reduceToNat, Int.toNat_natCast, tn100, tn200]
        rw [← hM i hi]
        exact ⟨fun x => x.1, fun x => ⟨x, e⟩⟩)
    obtain ⟨ν1, a1, a2⟩ := r_all0 t0
    have t1 := tlR_q t0 a2
    have fr1 : qS ν ν1 := qS_tr ⟨fun a y1 y2 y3 y4 => by simp (disch := omega) only [bd_some, lm_e, if_pos, if_neg, up_ne, up_at, upf_same, upf_ne, reduceIte, or_true, true_or, Int.reduceToNat, Int.toNat_natCast, tn100, tn200], fun j hj => by simp (disch := omega) only [bd_some, lm_e, if_pos, if_neg, up_ne, up_at, upf_same, upf_ne, reduceIte, or_true, true_or, Int.reduceToNat, Int.toNat_natCast, tn100, tn200]⟩ (qS_R a2)
    rw [f_X11_quarrel_54_e, ek, if_neg (by omega), if_pos (by omega), z01_11.1, z01_11.2, lm_e, Int.toNat_natCast, a1, bd_some]
    by_cases ha : agr (N : Int) g f t c (fun j => M j ∧ j ≠ k)
    · -- it stays
      have hcg : ∀ i : Nat, (i : Int) < (N : Int) → (M i ↔ (M i ∧ (i = k → agr (N : Int) g f t c (fun j => M j ∧ j ≠ k)))) := fun i _ => ⟨fun x => ⟨x, fun _ => ha⟩, fun x => x.1⟩
      have t2 : tlR N g f t c M (up ν1 335 k 1) := tlR_M t1 (by simp (disch := omega) only [bd_some, lm_e, if_pos, if_neg, up_ne, up_at, upf_same, upf_ne, reduceIte, or_true, true_or, Int.reduceToNat, Int.toNat_natCast, tn100, tn200]) (by simp (disch := omega) only [bd_some, lm_e, if_pos, if_neg, up_ne, up_at, upf_same, upf_ne, reduceIte, or_true, true_or, Int.reduceToNat, Int.toNat_natCast, tn100, tn200]) (by simp (disch := omega) only [bd_some, lm_e, if_pos, if_neg, up_ne, up_at, upf_same, upf_ne, reduceIte, or_true, true_or, Int.reduceToNat, Int.toNat_natCast, tn100, tn200]) (by simp (disch := omega) only [bd_some, lm_e, if_pos, if_neg, up_ne, up_at, upf_same, upf_ne, reduceIte, or_true, true_or, Int.reduceToNat, Int.toNat_natCast, tn100, tn200]) (by simp (disch := omega) only [bd_some, lm_e, if_pos, if_neg, up_ne, up_at, upf_same, upf_ne, reduceIte, or_true, true_or, Int.reduceToNat, Int.toNat_natCast, tn100, tn200]) (fun i hi => by
        by_cases e : i = k
        · subst e
          simp (disch := omega) only [bd_some, lm_e, if_pos, if_neg, up_ne, up_at, upf_same, upf_ne, reduceIte, or_true, true_or, Int.reduceToNat, Int.toNat_natCast, tn100, tn200]
          exact ⟨fun _ => by decide, fun _ => h4 i (by omega)⟩
        · simp (disch := omega) only [bd_some, lm_e, if_pos, if_neg, up_ne, up_at, upf_same, upf_ne, reduceIte, or_true, true_or, Int.reduceToNat, Int.toNat_natCast, tn100, tn200]
          rw [← t1.2.2.2.2 i hi]
          exact ⟨fun x => ⟨x, e⟩, fun x => x.1⟩)
      obtain ⟨r, ν', q1, q2, q3, q4⟩ := r_quar54 k m cnt M (up ν1 335 k 1) (by omega) (by omega) t2 (fun i hi => h4 i (by omega)) (by omega) h6
      refine ⟨r, ν', ?_, qS_tr fr1 (qS_tr ⟨fun a y1 y2 y3 y4 => by simp (disch := omega) only [bd_some, lm_e, if_pos, if_neg, up_ne, up_at, upf_same, upf_ne, reduceIte, or_true, true_or, Int.reduceToNat, Int.toNat_natCast, tn100, tn200], fun j hj => by simp (disch := omega) only [bd_some, lm_e, if_pos, if_neg, up_ne, up_at, upf_same, upf_ne, reduceIte, or_true, true_or, Int.reduceToNat, Int.toNat_natCast, tn100, tn200]⟩ q2), ?_, ?_⟩
      · rw [b2i_t ha, if_neg (by decide), lm_e, if_pos (by omega), ek2, q1]
      · exact tlR_M q3 rfl rfl rfl rfl rfl (fun i hi => by rw [← q3.2.2.2.2 i hi]; exact (qrun_cong k hcg i (by omega)).symm)
      · rw [← q4]
        congr 1
        exact countTo_cong N (fun i hi => (qrun_cong k hcg i (by omega)).symm)
    · -- it goes
      have hcg : ∀ i : Nat, (i : Int) < (N : Int) → ((M i ∧ i ≠ k) ↔ (M i ∧ (i = k → agr (N : Int) g f t c (fun j => M j ∧ j ≠ k)))) := fun i _ => ⟨fun x => ⟨x.1, fun y => absurd y x.2⟩, fun x => ⟨x.1, fun y => ha (x.2 y)⟩⟩
      obtain ⟨r, ν', q1, q2, q3, q4⟩ := r_quar54 k m (cnt + (-1)) (fun j => M j ∧ j ≠ k) ν1 (by omega) (by omega) t1 (fun i hi => ⟨h4 i (by omega), by omega⟩) (by omega) (by omega)
      refine ⟨r, ν', ?_, qS_tr fr1 q2, ?_, ?_⟩
      · rw [b2i_f ha, if_pos rfl, if_pos (by omega), if_pos (by omega), ek2, q1]
      · exact tlR_M q3 rfl rfl rfl rfl rfl (fun i hi => by rw [← q3.2.2.2.2 i hi]; exact (qrun_cong k hcg i (by omega)).symm)
      · have e1 : countTo M N = countTo (fun j => M j ∧ j ≠ k) N + b2i (k < N) := countTo_ins (c := k) (fun x => x.2 rfl) N (fun j _ => by
          by_cases e : j = k
          · subst e
            exact ⟨fun _ => Or.inr rfl, fun _ => h4 j (by omega)⟩
          · exact ⟨fun x => Or.inl ⟨x, e⟩, fun x => x.elim (fun y => y.1) (fun y => absurd y e)⟩)
        rw [b2i_t (by omega)] at e1
        have e2 : countTo (qrun (N : Int) g f t c (k + 1) M) N = countTo (qrun (N : Int) g f t c k (fun j => M j ∧ j ≠ k)) N := countTo_cong N (fun i hi => (qrun_cong k hcg i (by omega)).symm)
        rw [e2]
        omega
theorem r_isIn : ∀ (d m v : Nat) (ν : Mem), v + d = 20 → d < m → ν 300 45 = (N : Int) → N ≤ 20 → ∃ ν', f_X11_quarrel_2 m (v : Int) ν = bd (f_X11_canBe_ ν') (fun r2 μ3 => if r2 = 0 then (if inR ((μ3 300 45) - 1) then (f_X11_quarrel_54 64 (μ3 300 45) ((μ3 300 45) - 1) μ3) else none) else (some (0, μ3))) ∧ (∀ a, a ≠ 335 → ν' a = ν a) ∧ (∀ i, i < v → ν' 335 i = ν 335 i) ∧ (∀ i, v ≤ i → i < 20 → (ν' 335 i ≠ 0 ↔ i < N))
  | 0, m + 1, v, ν, h1, h2, h3, h4 => by
    refine ⟨ν, ?_, fun _ _ => rfl, fun _ _ => rfl, fun i i1 i2 => by omega⟩
    rw [f_X11_quarrel_2_e, if_pos (by omega)]
  | d + 1, m + 1, v, ν, h1, h2, h3, h4 => by
    rw [f_X11_quarrel_2_e, if_neg (by omega), z01_11.1, z01_11.2]
    have go : ∀ z : Int, (z ≠ 0 ↔ v < N) → ∃ ν', f_X11_quarrel_2 m ((v : Int) + 1) (up ν 335 v z) = bd (f_X11_canBe_ ν') (fun r2 μ3 => if r2 = 0 then (if inR ((μ3 300 45) - 1) then (f_X11_quarrel_54 64 (μ3 300 45) ((μ3 300 45) - 1) μ3) else none) else (some (0, μ3))) ∧ (∀ a, a ≠ 335 → ν' a = ν a) ∧ (∀ i, i < v → ν' 335 i = ν 335 i) ∧ (∀ i, v ≤ i → i < 20 → (ν' 335 i ≠ 0 ↔ i < N)) := by
      intro z hz
      obtain ⟨ν', q1, q2, q3, q4⟩ := r_isIn d m (v + 1) (up ν 335 v z) (by omega) (by omega) (by simp (disch := omega) only [bd_some, lm_e, if_pos, if_neg, up_ne, up_at, upf_same, upf_ne, reduceIte, or_true, true_or, Int.reduceToNat, Int.toNat_natCast, tn100, tn200]; exact h3) h4
      rw [show ((v + 1 : Nat) : Int) = (v : Int) + 1 by omega] at q1
      refine ⟨ν', q1, fun a ha => by rw [q2 a ha]; simp (disch := omega) only [bd_some, lm_e, if_pos, if_neg, up_ne, up_at, upf_same, upf_ne, reduceIte, or_true, true_or, Int.reduceToNat, Int.toNat_natCast, tn100, tn200], fun i hi => by rw [q3 i (by omega)]; simp (disch := omega) only [bd_some, lm_e, if_pos, if_neg, up_ne, up_at, upf_same, upf_ne, reduceIte, or_true, true_or, Int.reduceToNat, Int.toNat_natCast, tn100, tn200], fun i i1 i2 => ?_⟩
      by_cases e : i = v
      · subst e
        rw [q3 i (by omega)]
        simp (disch := omega) only [bd_some, lm_e, if_pos, if_neg, up_ne, up_at, upf_same, upf_ne, reduceIte, or_true, true_or, Int.reduceToNat, Int.toNat_natCast, tn100, tn200]
        exact hz
      · exact q4 i (by omega) i2
    by_cases c : (N : Int) ≤ (v : Int)
    · obtain ⟨ν', q1, q2⟩ := go 0 ⟨fun x => absurd rfl x, fun x => by omega⟩
      refine ⟨ν', ?_, q2⟩
      rw [if_pos (by omega), if_pos (by omega), lm_e, if_pos (by omega), Int.toNat_natCast, q1]
    · obtain ⟨ν', q1, q2⟩ := go 1 ⟨fun x => by omega, fun x => by decide⟩
      refine ⟨ν', ?_, q2⟩
      rw [if_neg (by omega), if_pos (by omega), lm_e, if_pos (by omega), Int.toNat_natCast, q1]
/-- the reference's quarrel: how many, and who is in -/
theorem r_quarrel {M : Nat → Prop} {ν : Mem} (h : tlR N g f t c M ν) : ∃ ν', f_X11_quarrel ν = some (countTo (quar (N : Int) g f t c) N, ν') ∧ qS ν ν' ∧ (0 < countTo (quar (N : Int) g f t c) N → ∀ i, i < N → (ν' 335 i ≠ 0 ↔ quar (N : Int) g f t c i)) := by
  obtain ⟨ν1, a1, a2, -, a4⟩ := r_isIn (N := N) 20 64 0 ν rfl (by decide) h.1 h.2.1
  rw [show ((0 : Nat) : Int) = 0 from rfl] at a1
  have hN2 := h.2.1
  have t1 : tlR N g f t c (fun j => (j : Int) < (N : Int)) ν1 := tlR_M h (by rw [a2 300 (by decide)]) (a2 331 (by decide)) (a2 332 (by decide)) (a2 333 (by decide)) (a2 334 (by decide)) (fun i hi => by rw [a4 i (by omega) (by omega)]; omega)
  obtain ⟨ν2, b1, b2⟩ := r_all0 t1
  have fr : qS ν ν2 := qS_tr ⟨fun a y1 y2 y3 y4 => a2 a y2, fun j hj => by rw [a2 300 (by decide)]⟩ (qS_R b2)
  have t2 := tlR_q t1 b2
  have h45 : ν2 300 45 = (N : Int) := t2.1
  have e0 : f_X11_quarrel ν = f_X11_quarrel_2 64 0 ν := rfl
  rw [e0, a1, b1, bd_some]
  by_cases ha : agr (N : Int) g f t c (fun j => (j : Int) < (N : Int))
  · have hz : countTo (quar (N : Int) g f t c) N = 0 := by
      have : ∀ m : Nat, countTo (quar (N : Int) g f t c) m = 0 := by
        intro m
        induction m with
        | zero => rfl
        | succ m ih =>
          show countTo (quar (N : Int) g f t c) m + b2i (quar (N : Int) g f t c m) = 0
          rw [ih, b2i_f (fun x => x.2.1 ha)]
          rfl
      exact this N
    refine ⟨ν2, ?_, fr, fun x => by omega⟩
    rw [b2i_t ha, if_neg (by decide), hz]
  · obtain ⟨r, ν', q1, q2, q3, q4⟩ := r_quar54 N 64 (N : Int) (fun j => (j : Int) < (N : Int)) ν2 (by omega) (Nat.le_refl N) t2 (fun i hi => by omega) (by omega) (by omega)
    have hall : countTo (fun j : Nat => (j : Int) < (N : Int)) N = (N : Int) := by
      have : ∀ m : Nat, m ≤ N → countTo (fun j : Nat => (j : Int) < (N : Int)) m = (m : Int) := by
        intro m
        induction m with
        | zero => intro _; rfl
        | succ m ih =>
          intro hm
          show countTo (fun j : Nat => (j : Int) < (N : Int)) m + b2i ((m : Int) < (N : Int)) = ((m + 1 : Nat) : Int)
          rw [ih (by omega), b2i_t (by omega)]
          omega
      exact this N (Nat.le_refl N)
    have hq : ∀ i, i < N → (quar (N : Int) g f t c i ↔ qrun (N : Int) g f t c N (fun j => (j : Int) < (N : Int)) i) := by
      intro i hi
      unfold quar
      rw [Int.toNat_natCast]
      exact ⟨fun x => x.2.2, fun x => ⟨by omega, ha, x⟩⟩
    have hr : r = countTo (quar (N : Int) g f t c) N := by
      rw [countTo_cong N hq]
      omega
    refine ⟨ν', ?_, qS_tr fr q2, fun _ i hi => ?_⟩
    · rw [b2i_f ha, if_pos rfl, h45, if_pos (by omega), q1, hr]
    · rw [← q3.2.2.2.2 i hi, hq i hi]
end QR
