/-! GANG, STONE: what is made -/
theorem newG_ne {μ : Mem} {a : Nat} (h1 : a ≠ 90) (h2 : a ≠ 200 + (μ 90 1).toNat) : newG μ a = μ a := by
  unfold newG
  rw [if_neg h1, if_neg h2]
theorem newG_90 {μ : Mem} : newG μ 90 = upf (μ 90) 1 (μ 90 1 + 1) := if_pos rfl
theorem newS_ne {μ : Mem} {a : Nat} (h1 : a ≠ 90) (h2 : a ≠ 100 + (μ 90 0).toNat) : newS μ a = μ a := by
  unfold newS
  rw [if_neg h1, if_neg h2]
theorem newS_90 {μ : Mem} : newS μ 90 = upf (μ 90) 0 (μ 90 0 + 1) := if_pos rfl
def Step3 (f g : Mem → Option (Int × Mem)) (μ ν : Mem) : Prop :=
  wp (f μ) (fun r μ' => (∀ a, 300 ≤ a → μ' a = μ a) ∧ wp (g ν) (fun r2 ν' => r2 = r ∧ (∀ a, a < 300 → ν' a = ν a) ∧ Inv2 μ' ν'))
theorem step3_of {f g : Mem → Option (Int × Mem)} {μ : Mem} (h : Inv μ) (hs : ∀ ν, Inv2 μ ν → Step3 f g μ ν) : Same Inv f g μ := by
  have h2 := Inv_2.mp h
  obtain ⟨r, μ1, e1, k1, -⟩ := wp_some (hs μ h2)
  have h3 : Inv2 μ μ1 := Inv2_mix h2 (fun _ _ => rfl) k1
  obtain ⟨r', μ1', e1', -, k3⟩ := wp_some (hs μ1 h3)
  have he := e1.symm.trans e1'
  cases he
  obtain ⟨r2, ν', e2, e3, e4, e5⟩ := wp_some k3
  subst e3
  refine ⟨r2, μ1, ν', e1, e2, e4 90 (by omega), Inv_2.mpr (Inv2_mix e5 e4 (fun _ _ => rfl))⟩
theorem step3_ro {f g : Mem → Option (Int × Mem)} {μ ν : Mem} (h : Inv2 μ ν) (r : Int) (h1 : f μ = some (r, μ)) (h2 : g ν = some (r, ν)) : Step3 f g μ ν := by
  unfold Step3
  rw [h1, wp_ret]
  refine ⟨fun _ _ => rfl, ?_⟩
  rw [h2, wp_ret]
  exact ⟨rfl, fun _ _ => rfl, h⟩
theorem step3_do {f g : Mem → Option (Int × Mem)} {μ ν : Mem} (r : Int) {μ' ν' : Mem} (h1 : f μ = some (r, μ')) (h2 : g ν = some (r, ν')) (c1 : ∀ a, 300 ≤ a → μ' a = μ a) (c3 : ∀ a, a < 300 → ν' a = ν a) (h : Inv2 μ' ν') : Step3 f g μ ν := by
  unfold Step3
  rw [h1, wp_ret]
  refine ⟨c1, ?_⟩
  rw [h2, wp_ret]
  exact ⟨rfl, c3, h⟩
theorem sumTo_cong {f g : Nat → Int} : ∀ n : Nat, (∀ k, k < n → f k = g k) → sumTo f n = sumTo g n
  | 0, _ => rfl
  | n + 1, h => by
    show sumTo f n + f n = sumTo g n + g n
    rw [sumTo_cong n (fun k hk => h k (by omega)), h n (by omega)]
theorem Isite2_newg {μ ν μ' ν' : Mem} (h : Isite2 μ ν) (G : Nat) (hG : μ 6 5 = (G : Int)) (hG6 : G < 6) (a : Int) (ha : 1 ≤ a ∧ a ≤ 200) (hc : ∀ b, sC b → b ≠ 6 → b ≠ 19 → b ≠ 90 → b ≠ 200 + G → μ' b = μ b) (hr : ∀ b, sR b → b ≠ 301 → ν' b = ν b) (c6 : ∀ j, j ≠ 5 → j ≠ 7 → μ' 6 j = μ 6 j) (c65 : μ' 6 5 = (G : Int) + 1) (c67 : μ' 6 7 = μ 6 7 + a) (c19 : ∀ j, j ≠ G → μ' 19 j = μ 19 j) (c19g : μ' 19 G = 200 + (G : Int)) (c90 : μ' 90 0 = μ 90 0) (c901 : μ' 90 1 = (G : Int) + 1)
    (m0 : μ' (200 + G) 0 = a) (m1 : μ' (200 + G) 1 = -1) (m2 : μ' (200 + G) 2 = 0) (m3 : μ' (200 + G) 3 = 0) (m4 : μ' (200 + G) 4 = 0) (r1 : ∀ j, j ≠ G → ν' 301 j = ν 301 j) (r1g : ν' 301 G = a) (r300 : ∀ j, j ≠ 2 → ν' 300 j = ν 300 j) (r3002 : ν' 300 2 = (G : Int) + 1) : Isite2 μ' ν' := by
  unfold sC at hc
  unfold sR at hr
  obtain ⟨n0, hm, ⟨g1, g2⟩, ⟨q1, q2⟩, w1, w2, w3, w4⟩ := h
  unfold Inum2 at n0
  have e20 := hc 20 (by omega) (by omega) (by omega) (by omega) (by omega)
  have e2 := hr 302 (by omega) (by omega)
  have e3 := hr 303 (by omega) (by omega)
  have e4 := hr 304 (by omega) (by omega)
  have e5 := hr 305 (by omega) (by omega)
  have s1 := hr 315 (by omega) (by omega)
  have s2 := hr 316 (by omega) (by omega)
  have s3 := hr 317 (by omega) (by omega)
  have s4 := hr 318 (by omega) (by omega)
  have s5 := hr 319 (by omega) (by omega)
  obtain ⟨i2, i3, i4, i5⟩ := g2 G (by omega) hG6
  have hk : ∀ k : Nat, (k : Int) < μ 6 6 → μ' (100 + k) = μ (100 + k) := fun k hk => hc _ (by omega) (by omega) (by omega) (by omega) (by omega)
  unfold Isite2 Inum2 Igang2 Istone2 Iwork2
  rw [r300 1 (by decide), r3002, r300 26 (by decide), r300 17 (by decide), r300 16 (by decide), c6 9 (by decide) (by decide), c65, c6 6 (by decide) (by decide), c6 8 (by decide) (by decide), c6 10 (by decide) (by decide), c67, c90, c901, e20, e2, e3, e4, e5, s1, s2, s3, s4, s5]
  refine ⟨by omega, ?_, ⟨fun j q => ?_, fun j q q6 => ?_⟩, ⟨fun k q => ?_, q2⟩, fun k j q q2 => ?_, fun j q k q2 he => ?_, fun i j q q2 he he2 => ?_, fun j q he => ?_⟩
  · rw [show ((G : Int) + 1).toNat = G + 1 by omega]
    show _ = sumTo (ν' 301) G + ν' 301 G
    rw [r1g, hm, hG, Int.toNat_natCast, sumTo_cong G (fun k hk => r1 k (by omega))]
  · by_cases hj : j = G
    · subst hj
      rw [c19g, m0, m1, m2, m3, m4, r1g, i2, i3, i4, i5]
      exact ⟨rfl, rfl, rfl, rfl, rfl, rfl, by omega, by omega, by omega, by omega, by omega, by omega, by omega, by omega, by omega, by omega⟩
    · rw [c19 j hj, hc (200 + j) (by omega) (by omega) (by omega) (by omega) (by omega), r1 j hj]
      exact g1 j (by omega)
  · exact g2 j (by omega) q6
  · rw [hk k q]
    obtain ⟨z0, z1, z2, z3, z4, z5, z6, z7, z8, z9, z10, z11, z12, z13, z14⟩ := q1 k q
    exact ⟨z0, z1, z2, z3, z4, z5, z6, z7, z8, z9, z10, z11, z12, z13, by omega⟩
  · rw [hk k q]
    obtain ⟨-, -, -, -, -, -, -, -, -, -, -, -, -, z13, z14⟩ := q1 k q
    by_cases hj : j = G
    · subst hj
      rw [i2]
      omega
    · exact w1 k j q (by omega)
  · by_cases hj : j = G
    · subst hj
      omega
    · exact w2 j (by omega) k q2 he
  · by_cases hj : j = G
    · subst hj
      omega
    · by_cases hi : i = G
      · subst hi
        omega
      · exact w3 i j (by omega) (by omega) he he2
  · by_cases hj : j = G
    · subst hj
      omega
    · exact w4 j (by omega) he
theorem Isite2_news {μ ν μ' ν' : Mem} (h : Isite2 μ ν) (S : Nat) (hS : μ 6 6 = (S : Int)) (hS3 : S < 30) (a d : Int) (ha : 1 ≤ a ∧ a ≤ 99) (hd : 0 ≤ d ∧ d ≤ 9) (hc : ∀ b, sC b → b ≠ 6 → b ≠ 20 → b ≠ 90 → b ≠ 100 + S → μ' b = μ b) (hr : ∀ b, sR b → b ≠ 315 → b ≠ 316 → b ≠ 318 → b ≠ 319 → ν' b = ν b) (c6 : ∀ j, j ≠ 6 → μ' 6 j = μ 6 j) (c66 : μ' 6 6 = (S : Int) + 1) (c20 : ∀ j, j ≠ S → μ' 20 j = μ 20 j) (c20s : μ' 20 S = 100 + (S : Int)) (c90 : μ' 90 0 = (S : Int) + 1) (c901 : μ' 90 1 = μ 90 1)
    (m0 : μ' (100 + S) 0 = a) (m1 : μ' (100 + S) 1 = d) (m2 : μ' (100 + S) 2 = 0) (m3 : μ' (100 + S) 3 = -1) (m4 : μ' (100 + S) 4 = -1) (m5 : μ' (100 + S) 5 = -1) (t5 : ∀ j, j ≠ S → ν' 315 j = ν 315 j) (t5s : ν' 315 S = a) (t6 : ∀ j, j ≠ S → ν' 316 j = ν 316 j) (t6s : ν' 316 S = d) (t8 : ∀ j, j ≠ S → ν' 318 j = ν 318 j) (t8s : ν' 318 S = -1) (t9 : ∀ j, j ≠ S → ν' 319 j = ν 319 j) (t9s : ν' 319 S = -1) (r300 : ∀ j, j ≠ 26 → ν' 300 j = ν 300 j) (r30026 : ν' 300 26 = (S : Int) + 1) : Isite2 μ' ν' := by
  unfold sC at hc
  unfold sR at hr
  obtain ⟨n0, hm, ⟨g1, g2⟩, ⟨q1, q2⟩, w1, w2, w3, w4⟩ := h
  unfold Inum2 at n0
  have e19 := hc 19 (by omega) (by omega) (by omega) (by omega) (by omega)
  have e1 := hr 301 (by omega) (by omega) (by omega) (by omega) (by omega)
  have e2 := hr 302 (by omega) (by omega) (by omega) (by omega) (by omega)
  have e3 := hr 303 (by omega) (by omega) (by omega) (by omega) (by omega)
  have e4 := hr 304 (by omega) (by omega) (by omega) (by omega) (by omega)
  have e5 := hr 305 (by omega) (by omega) (by omega) (by omega) (by omega)
  have s3 := hr 317 (by omega) (by omega) (by omega) (by omega) (by omega)
  have i7 := q2 S (by omega) hS3
  have hg : ∀ k : Nat, (k : Int) < μ 6 5 → μ' (200 + k) = μ (200 + k) := fun k hk => hc _ (by omega) (by omega) (by omega) (by omega) (by omega)
  unfold Isite2 Inum2 Igang2 Istone2 Iwork2
  rw [r300 1 (by decide), r30026, r300 2 (by decide), r300 17 (by decide), r300 16 (by decide), c6 9 (by decide), c66, c6 5 (by decide), c6 8 (by decide), c6 10 (by decide), c6 7 (by decide), c90, c901, e19, e1, e2, e3, e4, e5, s3]
  refine ⟨by omega, hm, ⟨fun j q => ?_, g2⟩, ⟨fun k q => ?_, fun k q q30 => ?_⟩, fun k j q q2 => ?_, fun j q k q2 he => ?_, w3, w4⟩
  · rw [hg j q]
    obtain ⟨z0, z1, z2, z3, z4, z5, z6, z7, z8, z9, z10, z11, z12, z13, z14, z15⟩ := g1 j q
    exact ⟨z0, z1, z2, z3, z4, z5, z6, z7, z8, by omega, z10, z11, z12, z13, z14, z15⟩
  · by_cases hk : k = S
    · subst hk
      rw [c20s, m0, m1, m2, m3, m4, m5, t5s, t6s, t8s, t9s, i7]
      exact ⟨rfl, rfl, rfl, rfl, rfl, rfl, by omega, by omega, by omega, by omega, by omega, by omega, fun _ => rfl, by omega, by omega⟩
    · rw [c20 k hk, hc (100 + k) (by omega) (by omega) (by omega) (by omega) (by omega), t5 k hk, t6 k hk, t8 k hk, t9 k hk]
      exact q1 k (by omega)
  · exact q2 k (by omega) q30
  · have hw := g1 j q2
    by_cases hk : k = S
    · subst hk
      rw [m3]
      omega
    · rw [hc (100 + k) (by omega) (by omega) (by omega) (by omega) (by omega)]
      exact w1 k j (by omega) q2
  · have hw := g1 j q
    by_cases hk : k = S
    · subst hk
      omega
    · exact w2 j q k (by omega) he
set_option maxHeartbeats 8000000 in
theorem s_gang {μ ν : Mem} (h : Inv2 μ ν) (a : Int) : Step3 (fun μ => f_X10_gang μ a) (fun ν => f_X11_gang ν a) μ ν := by
  have hI := h
  obtain ⟨hb, hsp, hru, htp, htab, hs, hrf, hpl, htl, hq⟩ := h
  have n1 := hs.1
  unfold Inum2 at n1
  have hmen := hs.2.1
  have hgang := hs.2.2.1.1
  have hall := sumTo_200 (f := ν 301) (μ 6 5).toNat (fun k hk => by have := hgang k (by omega); omega)
  by_cases hc : μ 6 5 < 6 ∧ 1 ≤ a ∧ a ≤ 200
  case neg =>
    refine step3_ro hI (-1) (ex_of ?_) (ex_of ?_)
    · unfold f_X10_gang f_X3_addGang
      by_cases c1 : 6 ≤ μ 6 5
      · repeat (first | rw [wp_ret] | rw [wp_lm] | rw [wp_bd] | (with_reducible refine wp_t ?_ ?_; focus (first | omega | (simp (disch := omega) only [gaq, stq, up_ne, up_at, upf_same, upf_ne, tn200, tn100, Int.toNat_natCast, Int.reduceToNat]; (try omega); done))) | (with_reducible refine wp_f ?_ ?_; focus (first | omega | (simp (disch := omega) only [gaq, stq, up_ne, up_at, upf_same, upf_ne, tn200, tn100, Int.toNat_natCast, Int.reduceToNat]; (try omega); done))))
        first | exact ⟨rfl, rfl⟩ | exact ⟨trivial, rfl⟩ | exact ⟨trivial, trivial⟩ | exact trivial
      · by_cases c2 : a < 1
        · repeat (first | rw [wp_ret] | rw [wp_lm] | rw [wp_bd] | (with_reducible refine wp_t ?_ ?_; focus (first | omega | (simp (disch := omega) only [gaq, stq, up_ne, up_at, upf_same, upf_ne, tn200, tn100, Int.toNat_natCast, Int.reduceToNat]; (try omega); done))) | (with_reducible refine wp_f ?_ ?_; focus (first | omega | (simp (disch := omega) only [gaq, stq, up_ne, up_at, upf_same, upf_ne, tn200, tn100, Int.toNat_natCast, Int.reduceToNat]; (try omega); done))))
          first | exact ⟨rfl, rfl⟩ | exact ⟨trivial, rfl⟩ | exact ⟨trivial, trivial⟩ | exact trivial
        · repeat (first | rw [wp_ret] | rw [wp_lm] | rw [wp_bd] | (with_reducible refine wp_t ?_ ?_; focus (first | omega | (simp (disch := omega) only [gaq, stq, up_ne, up_at, upf_same, upf_ne, tn200, tn100, Int.toNat_natCast, Int.reduceToNat]; (try omega); done))) | (with_reducible refine wp_f ?_ ?_; focus (first | omega | (simp (disch := omega) only [gaq, stq, up_ne, up_at, upf_same, upf_ne, tn200, tn100, Int.toNat_natCast, Int.reduceToNat]; (try omega); done))))
          first | exact ⟨rfl, rfl⟩ | exact ⟨trivial, rfl⟩ | exact ⟨trivial, trivial⟩ | exact trivial
    · unfold f_X11_gang
      by_cases c1 : ν 300 2 = 6
      · repeat (first | rw [wp_ret] | rw [wp_lm] | rw [wp_bd] | (with_reducible refine wp_t ?_ ?_; focus (first | omega | (simp (disch := omega) only [gaq, stq, up_ne, up_at, upf_same, upf_ne, tn200, tn100, Int.toNat_natCast, Int.reduceToNat]; (try omega); done))) | (with_reducible refine wp_f ?_ ?_; focus (first | omega | (simp (disch := omega) only [gaq, stq, up_ne, up_at, upf_same, upf_ne, tn200, tn100, Int.toNat_natCast, Int.reduceToNat]; (try omega); done))))
        first | exact ⟨rfl, rfl⟩ | exact ⟨trivial, rfl⟩ | exact ⟨trivial, trivial⟩ | exact trivial
      · repeat (first | rw [wp_ret] | rw [wp_lm] | rw [wp_bd] | (rw [f_in_e, wp_ret]; (try simp only [b2i_0, tn200, tn100, Int.toNat_natCast, Int.reduceToNat])) | (with_reducible refine wp_t ?_ ?_; focus (first | omega | (simp (disch := omega) only [b2i_0, gaq, stq, up_ne, up_at, upf_same, upf_ne, tn200, tn100, Int.toNat_natCast, Int.reduceToNat]; (try omega); done))) | (with_reducible refine wp_f ?_ ?_; focus (first | omega | (simp (disch := omega) only [b2i_0, gaq, stq, up_ne, up_at, upf_same, upf_ne, tn200, tn100, Int.toNat_natCast, Int.reduceToNat]; (try omega); done))))
        first | exact ⟨rfl, rfl⟩ | exact ⟨trivial, rfl⟩ | exact ⟨trivial, trivial⟩ | exact trivial
  obtain ⟨G, hG⟩ : ∃ G : Nat, μ 6 5 = (G : Int) := ⟨(μ 6 5).toNat, by omega⟩
  have h90 : μ 90 1 = (G : Int) := by omega
  have hv2 : ν 300 2 = (G : Int) := by omega
  have h901 : (μ 90 1).toNat = G := by omega
  refine step3_do (μ' := up (up (up (up (up (up (up (up (newG μ) (200 + G) 1 (-1)) (200 + G) 2 0) (200 + G) 3 0) (200 + G) 4 0) (200 + G) 0 a) 19 G (200 + (G : Int))) 6 7 (μ 6 7 + a)) 6 5 ((G : Int) + 1)) (ν' := up (up ν 301 G a) 300 2 ((G : Int) + 1)) (G : Int) (ex_of ?_) (ex_of ?_) (fun b hb => by simp (disch := omega) only [newG_ne, bd_some, lm_e, if_pos, if_neg, up_ne, up_at, upf_same, upf_ne, reduceIte, or_true, true_or, Int.reduceToNat, Int.toNat_natCast, tn100, tn200]) (fun b hb => by simp (disch := omega) only [bd_some, lm_e, if_pos, if_neg, up_ne, up_at, upf_same, upf_ne, reduceIte, or_true, true_or, Int.reduceToNat, Int.toNat_natCast, tn100, tn200]) ?_
  · unfold f_X10_gang f_X3_addGang f_X0_init
    simp only [h90, hG, tn200, Int.toNat_natCast]
    repeat (first | rw [wp_ret] | rw [wp_lm] | rw [wp_bd] | (with_reducible refine wp_t ?_ ?_; focus (first | omega | (simp (disch := omega) only [newG_ne, newG_90, h90, hG, gaq, stq, up_ne, up_at, upf_same, upf_ne, tn200, tn100, Int.toNat_natCast, Int.reduceToNat]; (try omega); done))) | (with_reducible refine wp_f ?_ ?_; focus (first | omega | (simp (disch := omega) only [newG_ne, newG_90, h90, hG, gaq, stq, up_ne, up_at, upf_same, upf_ne, tn200, tn100, Int.toNat_natCast, Int.reduceToNat]; (try omega); done))))
    simp (disch := omega) only [newG_ne, newG_90, h90, hG, bd_some, lm_e, if_pos, if_neg, up_ne, up_at, upf_same, upf_ne, reduceIte, or_true, true_or, Int.reduceToNat, Int.toNat_natCast, tn100, tn200]
    first | exact ⟨rfl, rfl⟩ | exact ⟨trivial, rfl⟩ | exact ⟨trivial, trivial⟩ | exact trivial
  · unfold f_X11_gang
    simp only [hv2, Int.toNat_natCast]
    repeat (first | rw [wp_ret] | rw [wp_lm] | rw [wp_bd] | (rw [f_in_e, wp_ret]; (try simp only [b2i_0, hv2, tn200, tn100, Int.toNat_natCast, Int.reduceToNat])) | (with_reducible refine wp_t ?_ ?_; focus (first | omega | (simp (disch := omega) only [b2i_0, hv2, gaq, stq, up_ne, up_at, upf_same, upf_ne, tn200, tn100, Int.toNat_natCast, Int.reduceToNat]; (try omega); done))) | (with_reducible refine wp_f ?_ ?_; focus (first | omega | (simp (disch := omega) only [b2i_0, hv2, gaq, stq, up_ne, up_at, upf_same, upf_ne, tn200, tn100, Int.toNat_natCast, Int.reduceToNat]; (try omega); done))))
    simp (disch := omega) only [hv2, bd_some, lm_e, if_pos, if_neg, up_ne, up_at, upf_same, upf_ne, reduceIte, or_true, true_or, Int.reduceToNat, Int.toNat_natCast, tn100, tn200]
    refine ⟨by omega, trivial⟩
  · unfold Inv2
    simp (disch := omega) only [newG_ne, newG_90, bd_some, lm_e, if_pos, if_neg, up_ne, up_at, upf_same, upf_ne, reduceIte, or_true, true_or, Int.reduceToNat, Int.toNat_natCast, tn100, tn200]
    refine ⟨hb, hsp, hru, htp, htab, ?_, ?_, Iplan2_fr hpl (fun b q1 q2 => by simp (disch := omega) only [newG_ne, bd_some, lm_e, if_pos, if_neg, up_ne, up_at, upf_same, upf_ne, reduceIte, or_true, true_or, Int.reduceToNat, Int.toNat_natCast, tn100, tn200]) (fun b q1 q2 => by simp (disch := omega) only [bd_some, lm_e, if_pos, if_neg, up_ne, up_at, upf_same, upf_ne, reduceIte, or_true, true_or, Int.reduceToNat, Int.toNat_natCast, tn100, tn200]), htl, hq⟩
    · refine Isite2_newg hs G hG (by omega) a hc.2 (fun b hb b1 b2 b3 b4 => by simp (disch := omega) only [newG_ne, bd_some, lm_e, if_pos, if_neg, up_ne, up_at, upf_same, upf_ne, reduceIte, or_true, true_or, Int.reduceToNat, Int.toNat_natCast, tn100, tn200]) (fun b hb b1 => by unfold sR at hb; simp (disch := omega) only [bd_some, lm_e, if_pos, if_neg, up_ne, up_at, upf_same, upf_ne, reduceIte, or_true, true_or, Int.reduceToNat, Int.toNat_natCast, tn100, tn200]) (fun j j1 j2 => by simp (disch := omega) only [newG_ne, bd_some, lm_e, if_pos, if_neg, up_ne, up_at, upf_same, upf_ne, reduceIte, or_true, true_or, Int.reduceToNat, Int.toNat_natCast, tn100, tn200]) (by simp (disch := omega) only [bd_some, lm_e, if_pos, if_neg, up_ne, up_at, upf_same, upf_ne, reduceIte, or_true, true_or, Int.reduceToNat, Int.toNat_natCast, tn100, tn200]) (by simp (disch := omega) only [bd_some, lm_e, if_pos, if_neg, up_ne, up_at, upf_same, upf_ne, reduceIte, or_true, true_or, Int.reduceToNat, Int.toNat_natCast, tn100, tn200]) (fun j hj => by simp (disch := omega) only [newG_ne, bd_some, lm_e, if_pos, if_neg, up_ne, up_at, upf_same, upf_ne, reduceIte, or_true, true_or, Int.reduceToNat, Int.toNat_natCast, tn100, tn200]) (by simp (disch := omega) only [bd_some, lm_e, if_pos, if_neg, up_ne, up_at, upf_same, upf_ne, reduceIte, or_true, true_or, Int.reduceToNat, Int.toNat_natCast, tn100, tn200]) (by simp (disch := omega) only [newG_90, bd_some, lm_e, if_pos, if_neg, up_ne, up_at, upf_same, upf_ne, reduceIte, or_true, true_or, Int.reduceToNat, Int.toNat_natCast, tn100, tn200]) (by simp (disch := omega) only [newG_90, h90, bd_some, lm_e, if_pos, if_neg, up_ne, up_at, upf_same, upf_ne, reduceIte, or_true, true_or, Int.reduceToNat, Int.toNat_natCast, tn100, tn200]) (by simp (disch := omega) only [bd_some, lm_e, if_pos, if_neg, up_ne, up_at, upf_same, upf_ne, reduceIte, or_true, true_or, Int.reduceToNat, Int.toNat_natCast, tn100, tn200]) (by simp (disch := omega) only [bd_some, lm_e, if_pos, if_neg, up_ne, up_at, upf_same, upf_ne, reduceIte, or_true, true_or, Int.reduceToNat, Int.toNat_natCast, tn100, tn200]) (by simp (disch := omega) only [bd_some, lm_e, if_pos, if_neg, up_ne, up_at, upf_same, upf_ne, reduceIte, or_true, true_or, Int.reduceToNat, Int.toNat_natCast, tn100, tn200]) (by simp (disch := omega) only [bd_some, lm_e, if_pos, if_neg, up_ne, up_at, upf_same, upf_ne, reduceIte, or_true, true_or, Int.reduceToNat, Int.toNat_natCast, tn100, tn200]) (by simp (disch := omega) only [bd_some, lm_e, if_pos, if_neg, up_ne, up_at, upf_same, upf_ne, reduceIte, or_true, true_or, Int.reduceToNat, Int.toNat_natCast, tn100, tn200]) (fun j hj => by simp (disch := omega) only [bd_some, lm_e, if_pos, if_neg, up_ne, up_at, upf_same, upf_ne, reduceIte, or_true, true_or, Int.reduceToNat, Int.toNat_natCast, tn100, tn200]) (by simp (disch := omega) only [bd_some, lm_e, if_pos, if_neg, up_ne, up_at, upf_same, upf_ne, reduceIte, or_true, true_or, Int.reduceToNat, Int.toNat_natCast, tn100, tn200]) (fun j hj => by simp (disch := omega) only [bd_some, lm_e, if_pos, if_neg, up_ne, up_at, upf_same, upf_ne, reduceIte, or_true, true_or, Int.reduceToNat, Int.toNat_natCast, tn100, tn200]) (by simp (disch := omega) only [bd_some, lm_e, if_pos, if_neg, up_ne, up_at, upf_same, upf_ne, reduceIte, or_true, true_or, Int.reduceToNat, Int.toNat_natCast, tn100, tn200])
    · obtain ⟨r1, r2, r3⟩ := hrf
      refine ⟨fun j => ?_, fun j => ?_, fun j => ?_⟩
      · have := r1 j
        by_cases hj : j = G
        · subst hj
          simp (disch := omega) only [newG_90, bd_some, lm_e, if_pos, if_neg, up_ne, up_at, upf_same, upf_ne, reduceIte, or_true, true_or, Int.reduceToNat, Int.toNat_natCast, tn100, tn200]
          omega
        · simp (disch := omega) only [newG_90, newG_ne, bd_some, lm_e, if_pos, if_neg, up_ne, up_at, upf_same, upf_ne, reduceIte, or_true, true_or, Int.reduceToNat, Int.toNat_natCast, tn100, tn200]
          omega
      · have := r2 j
        simp (disch := omega) only [newG_90, newG_ne, bd_some, lm_e, if_pos, if_neg, up_ne, up_at, upf_same, upf_ne, reduceIte, or_true, true_or, Int.reduceToNat, Int.toNat_natCast, tn100, tn200]
        omega
      · have := r3 j
        simp (disch := omega) only [newG_90, newG_ne, bd_some, lm_e, if_pos, if_neg, up_ne, up_at, upf_same, upf_ne, reduceIte, or_true, true_or, Int.reduceToNat, Int.toNat_natCast, tn100, tn200]
        omega
set_option maxHeartbeats 8000000 in
theorem s_stone {μ ν : Mem} (h : Inv2 μ ν) (a d : Int) : Step3 (fun μ => f_X10_stone μ a d) (fun ν => f_X11_stone ν a d) μ ν := by
  have hI := h
  obtain ⟨hb, hsp, hru, htp, htab, hs, hrf, hpl, htl, hq⟩ := h
  have n1 := hs.1
  unfold Inum2 at n1
  by_cases hc : μ 6 6 < 30 ∧ 1 ≤ a ∧ a ≤ 99 ∧ 0 ≤ d ∧ d ≤ 9
  case neg =>
    refine step3_ro hI (-1) (ex_of ?_) (ex_of ?_)
    · unfold f_X10_stone f_X3_addStone
      by_cases c1 : 30 ≤ μ 6 6
      · repeat (first | rw [wp_ret] | rw [wp_lm] | rw [wp_bd] | (with_reducible refine wp_t ?_ ?_; focus (first | omega | (simp (disch := omega) only [gaq, stq, up_ne, up_at, upf_same, upf_ne, tn200, tn100, Int.toNat_natCast, Int.reduceToNat]; (try omega); done))) | (with_reducible refine wp_f ?_ ?_; focus (first | omega | (simp (disch := omega) only [gaq, stq, up_ne, up_at, upf_same, upf_ne, tn200, tn100, Int.toNat_natCast, Int.reduceToNat]; (try omega); done))))
        first | exact ⟨rfl, rfl⟩ | exact ⟨trivial, rfl⟩ | exact ⟨trivial, trivial⟩ | exact trivial
      · by_cases c2 : a < 1
        · repeat (first | rw [wp_ret] | rw [wp_lm] | rw [wp_bd] | (with_reducible refine wp_t ?_ ?_; focus (first | omega | (simp (disch := omega) only [gaq, stq, up_ne, up_at, upf_same, upf_ne, tn200, tn100, Int.toNat_natCast, Int.reduceToNat]; (try omega); done))) | (with_reducible refine wp_f ?_ ?_; focus (first | omega | (simp (disch := omega) only [gaq, stq, up_ne, up_at, upf_same, upf_ne, tn200, tn100, Int.toNat_natCast, Int.reduceToNat]; (try omega); done))))
          first | exact ⟨rfl, rfl⟩ | exact ⟨trivial, rfl⟩ | exact ⟨trivial, trivial⟩ | exact trivial
        · by_cases c3 : a ≤ 99
          · by_cases c4 : d < 0
            · repeat (first | rw [wp_ret] | rw [wp_lm] | rw [wp_bd] | (with_reducible refine wp_t ?_ ?_; focus (first | omega | (simp (disch := omega) only [gaq, stq, up_ne, up_at, upf_same, upf_ne, tn200, tn100, Int.toNat_natCast, Int.reduceToNat]; (try omega); done))) | (with_reducible refine wp_f ?_ ?_; focus (first | omega | (simp (disch := omega) only [gaq, stq, up_ne, up_at, upf_same, upf_ne, tn200, tn100, Int.toNat_natCast, Int.reduceToNat]; (try omega); done))))
              first | exact ⟨rfl, rfl⟩ | exact ⟨trivial, rfl⟩ | exact ⟨trivial, trivial⟩ | exact trivial
            · repeat (first | rw [wp_ret] | rw [wp_lm] | rw [wp_bd] | (with_reducible refine wp_t ?_ ?_; focus (first | omega | (simp (disch := omega) only [gaq, stq, up_ne, up_at, upf_same, upf_ne, tn200, tn100, Int.toNat_natCast, Int.reduceToNat]; (try omega); done))) | (with_reducible refine wp_f ?_ ?_; focus (first | omega | (simp (disch := omega) only [gaq, stq, up_ne, up_at, upf_same, upf_ne, tn200, tn100, Int.toNat_natCast, Int.reduceToNat]; (try omega); done))))
              first | exact ⟨rfl, rfl⟩ | exact ⟨trivial, rfl⟩ | exact ⟨trivial, trivial⟩ | exact trivial
          · repeat (first | rw [wp_ret] | rw [wp_lm] | rw [wp_bd] | (with_reducible refine wp_t ?_ ?_; focus (first | omega | (simp (disch := omega) only [gaq, stq, up_ne, up_at, upf_same, upf_ne, tn200, tn100, Int.toNat_natCast, Int.reduceToNat]; (try omega); done))) | (with_reducible refine wp_f ?_ ?_; focus (first | omega | (simp (disch := omega) only [gaq, stq, up_ne, up_at, upf_same, upf_ne, tn200, tn100, Int.toNat_natCast, Int.reduceToNat]; (try omega); done))))
            first | exact ⟨rfl, rfl⟩ | exact ⟨trivial, rfl⟩ | exact ⟨trivial, trivial⟩ | exact trivial
    · unfold f_X11_stone
      by_cases c1 : ν 300 26 = 30
      · repeat (first | rw [wp_ret] | rw [wp_lm] | rw [wp_bd] | (with_reducible refine wp_t ?_ ?_; focus (first | omega | (simp (disch := omega) only [gaq, stq, up_ne, up_at, upf_same, upf_ne, tn200, tn100, Int.toNat_natCast, Int.reduceToNat]; (try omega); done))) | (with_reducible refine wp_f ?_ ?_; focus (first | omega | (simp (disch := omega) only [gaq, stq, up_ne, up_at, upf_same, upf_ne, tn200, tn100, Int.toNat_natCast, Int.reduceToNat]; (try omega); done))))
        first | exact ⟨rfl, rfl⟩ | exact ⟨trivial, rfl⟩ | exact ⟨trivial, trivial⟩ | exact trivial
      · by_cases c2 : 1 ≤ a ∧ a ≤ 99
        · repeat (first | rw [wp_ret] | rw [wp_lm] | rw [wp_bd] | (rw [f_in_e, wp_ret]; (try simp only [b2i_0, tn200, tn100, Int.toNat_natCast, Int.reduceToNat])) | (with_reducible refine wp_t ?_ ?_; focus (first | omega | (simp (disch := omega) only [b2i_0, gaq, stq, up_ne, up_at, upf_same, upf_ne, tn200, tn100, Int.toNat_natCast, Int.reduceToNat]; (try omega); done))) | (with_reducible refine wp_f ?_ ?_; focus (first | omega | (simp (disch := omega) only [b2i_0, gaq, stq, up_ne, up_at, upf_same, upf_ne, tn200, tn100, Int.toNat_natCast, Int.reduceToNat]; (try omega); done))))
          first | exact ⟨rfl, rfl⟩ | exact ⟨trivial, rfl⟩ | exact ⟨trivial, trivial⟩ | exact trivial
        · repeat (first | rw [wp_ret] | rw [wp_lm] | rw [wp_bd] | (rw [f_in_e, wp_ret]; (try simp only [b2i_0, tn200, tn100, Int.toNat_natCast, Int.reduceToNat])) | (with_reducible refine wp_t ?_ ?_; focus (first | omega | (simp (disch := omega) only [b2i_0, gaq, stq, up_ne, up_at, upf_same, upf_ne, tn200, tn100, Int.toNat_natCast, Int.reduceToNat]; (try omega); done))) | (with_reducible refine wp_f ?_ ?_; focus (first | omega | (simp (disch := omega) only [b2i_0, gaq, stq, up_ne, up_at, upf_same, upf_ne, tn200, tn100, Int.toNat_natCast, Int.reduceToNat]; (try omega); done))))
          first | exact ⟨rfl, rfl⟩ | exact ⟨trivial, rfl⟩ | exact ⟨trivial, trivial⟩ | exact trivial
  obtain ⟨S, hS⟩ : ∃ S : Nat, μ 6 6 = (S : Int) := ⟨(μ 6 6).toNat, by omega⟩
  have h90 : μ 90 0 = (S : Int) := by omega
  have hv2 : ν 300 26 = (S : Int) := by omega
  have h901 : (μ 90 0).toNat = S := by omega
  refine step3_do (μ' := up (up (up (up (up (up (up (up (newS μ) (100 + S) 2 0) (100 + S) 3 (-1)) (100 + S) 4 (-1)) (100 + S) 5 (-1)) (100 + S) 0 a) (100 + S) 1 d) 20 S (100 + (S : Int))) 6 6 ((S : Int) + 1)) (ν' := up (up (up (up (up ν 315 S a) 316 S d) 318 S (-1)) 319 S (-1)) 300 26 ((S : Int) + 1)) (S : Int) (ex_of ?_) (ex_of ?_) (fun b hb => by simp (disch := omega) only [newS_ne, bd_some, lm_e, if_pos, if_neg, up_ne, up_at, upf_same, upf_ne, reduceIte, or_true, true_or, Int.reduceToNat, Int.toNat_natCast, tn100, tn200]) (fun b hb => by simp (disch := omega) only [bd_some, lm_e, if_pos, if_neg, up_ne, up_at, upf_same, upf_ne, reduceIte, or_true, true_or, Int.reduceToNat, Int.toNat_natCast, tn100, tn200]) ?_
  · unfold f_X10_stone f_X3_addStone f_X4_init
    simp only [h90, hS, tn100, Int.toNat_natCast]
    repeat (first | rw [wp_ret] | rw [wp_lm] | rw [wp_bd] | (with_reducible refine wp_t ?_ ?_; focus (first | omega | (simp (disch := omega) only [newS_ne, newS_90, h90, hS, gaq, stq, up_ne, up_at, upf_same, upf_ne, tn200, tn100, Int.toNat_natCast, Int.reduceToNat]; (try omega); done))) | (with_reducible refine wp_f ?_ ?_; focus (first | omega | (simp (disch := omega) only [newS_ne, newS_90, h90, hS, gaq, stq, up_ne, up_at, upf_same, upf_ne, tn200, tn100, Int.toNat_natCast, Int.reduceToNat]; (try omega); done))))
    simp (disch := omega) only [newS_ne, newS_90, h90, hS, bd_some, lm_e, if_pos, if_neg, up_ne, up_at, upf_same, upf_ne, reduceIte, or_true, true_or, Int.reduceToNat, Int.toNat_natCast, tn100, tn200]
    first | exact ⟨rfl, rfl⟩ | exact ⟨trivial, rfl⟩ | exact ⟨trivial, trivial⟩ | exact trivial
  · unfold f_X11_stone
    simp only [hv2, Int.toNat_natCast]
    repeat (first | rw [wp_ret] | rw [wp_lm] | rw [wp_bd] | (rw [f_in_e, wp_ret]; (try simp only [b2i_0, hv2, tn200, tn100, Int.toNat_natCast, Int.reduceToNat])) | (with_reducible refine wp_t ?_ ?_; focus (first | omega | (simp (disch := omega) only [b2i_0, hv2, gaq, stq, up_ne, up_at, upf_same, upf_ne, tn200, tn100, Int.toNat_natCast, Int.reduceToNat]; (try omega); done))) | (with_reducible refine wp_f ?_ ?_; focus (first | omega | (simp (disch := omega) only [b2i_0, hv2, gaq, stq, up_ne, up_at, upf_same, upf_ne, tn200, tn100, Int.toNat_natCast, Int.reduceToNat]; (try omega); done))))
    simp (disch := omega) only [hv2, bd_some, lm_e, if_pos, if_neg, up_ne, up_at, upf_same, upf_ne, reduceIte, or_true, true_or, Int.reduceToNat, Int.toNat_natCast, tn100, tn200]
    refine ⟨by omega, trivial⟩
  · unfold Inv2
    simp (disch := omega) only [newS_ne, newS_90, bd_some, lm_e, if_pos, if_neg, up_ne, up_at, upf_same, upf_ne, reduceIte, or_true, true_or, Int.reduceToNat, Int.toNat_natCast, tn100, tn200]
    refine ⟨hb, hsp, hru, htp, htab, ?_, ?_, Iplan2_fr hpl (fun b q1 q2 => by simp (disch := omega) only [newS_ne, bd_some, lm_e, if_pos, if_neg, up_ne, up_at, upf_same, upf_ne, reduceIte, or_true, true_or, Int.reduceToNat, Int.toNat_natCast, tn100, tn200]) (fun b q1 q2 => by simp (disch := omega) only [bd_some, lm_e, if_pos, if_neg, up_ne, up_at, upf_same, upf_ne, reduceIte, or_true, true_or, Int.reduceToNat, Int.toNat_natCast, tn100, tn200]), htl, hq⟩
    · refine Isite2_news hs S hS (by omega) a d ⟨hc.2.1, hc.2.2.1⟩ hc.2.2.2 (fun b hb b1 b2 b3 b4 => by simp (disch := omega) only [newS_ne, bd_some, lm_e, if_pos, if_neg, up_ne, up_at, upf_same, upf_ne, reduceIte, or_true, true_or, Int.reduceToNat, Int.toNat_natCast, tn100, tn200]) (fun b hb b1 b2 b3 b4 => by unfold sR at hb; simp (disch := omega) only [bd_some, lm_e, if_pos, if_neg, up_ne, up_at, upf_same, upf_ne, reduceIte, or_true, true_or, Int.reduceToNat, Int.toNat_natCast, tn100, tn200]) (fun j j1 => by simp (disch := omega) only [newS_ne, bd_some, lm_e, if_pos, if_neg, up_ne, up_at, upf_same, upf_ne, reduceIte, or_true, true_or, Int.reduceToNat, Int.toNat_natCast, tn100, tn200]) (by simp (disch := omega) only [bd_some, lm_e, if_pos, if_neg, up_ne, up_at, upf_same, upf_ne, reduceIte, or_true, true_or, Int.reduceToNat, Int.toNat_natCast, tn100, tn200]) (fun j hj => by simp (disch := omega) only [newS_ne, bd_some, lm_e, if_pos, if_neg, up_ne, up_at, upf_same, upf_ne, reduceIte, or_true, true_or, Int.reduceToNat, Int.toNat_natCast, tn100, tn200]) (by simp (disch := omega) only [bd_some, lm_e, if_pos, if_neg, up_ne, up_at, upf_same, upf_ne, reduceIte, or_true, true_or, Int.reduceToNat, Int.toNat_natCast, tn100, tn200]) (by simp (disch := omega) only [newS_90, h90, bd_some, lm_e, if_pos, if_neg, up_ne, up_at, upf_same, upf_ne, reduceIte, or_true, true_or, Int.reduceToNat, Int.toNat_natCast, tn100, tn200]) (by simp (disch := omega) only [newS_90, bd_some, lm_e, if_pos, if_neg, up_ne, up_at, upf_same, upf_ne, reduceIte, or_true, true_or, Int.reduceToNat, Int.toNat_natCast, tn100, tn200]) (by simp (disch := omega) only [bd_some, lm_e, if_pos, if_neg, up_ne, up_at, upf_same, upf_ne, reduceIte, or_true, true_or, Int.reduceToNat, Int.toNat_natCast, tn100, tn200]) (by simp (disch := omega) only [bd_some, lm_e, if_pos, if_neg, up_ne, up_at, upf_same, upf_ne, reduceIte, or_true, true_or, Int.reduceToNat, Int.toNat_natCast, tn100, tn200]) (by simp (disch := omega) only [bd_some, lm_e, if_pos, if_neg, up_ne, up_at, upf_same, upf_ne, reduceIte, or_true, true_or, Int.reduceToNat, Int.toNat_natCast, tn100, tn200]) (by simp (disch := omega) only [bd_some, lm_e, if_pos, if_neg, up_ne, up_at, upf_same, upf_ne, reduceIte, or_true, true_or, Int.reduceToNat, Int.toNat_natCast, tn100, tn200]) (by simp (disch := omega) only [bd_some, lm_e, if_pos, if_neg, up_ne, up_at, upf_same, upf_ne, reduceIte, or_true, true_or, Int.reduceToNat, Int.toNat_natCast, tn100, tn200]) (by simp (disch := omega) only [bd_some, lm_e, if_pos, if_neg, up_ne, up_at, upf_same, upf_ne, reduceIte, or_true, true_or, Int.reduceToNat, Int.toNat_natCast, tn100, tn200]) (fun j hj => by simp (disch := omega) only [bd_some, lm_e, if_pos, if_neg, up_ne, up_at, upf_same, upf_ne, reduceIte, or_true, true_or, Int.reduceToNat, Int.toNat_natCast, tn100, tn200]) (by simp (disch := omega) only [bd_some, lm_e, if_pos, if_neg, up_ne, up_at, upf_same, upf_ne, reduceIte, or_true, true_or, Int.reduceToNat, Int.toNat_natCast, tn100, tn200]) (fun j hj => by simp (disch := omega) only [bd_some, lm_e, if_pos, if_neg, up_ne, up_at, upf_same, upf_ne, reduceIte, or_true, true_or, Int.reduceToNat, Int.toNat_natCast, tn100, tn200]) (by simp (disch := omega) only [bd_some, lm_e, if_pos, if_neg, up_ne, up_at, upf_same, upf_ne, reduceIte, or_true, true_or, Int.reduceToNat, Int.toNat_natCast, tn100, tn200]) (fun j hj => by simp (disch := omega) only [bd_some, lm_e, if_pos, if_neg, up_ne, up_at, upf_same, upf_ne, reduceIte, or_true, true_or, Int.reduceToNat, Int.toNat_natCast, tn100, tn200]) (by simp (disch := omega) only [bd_some, lm_e, if_pos, if_neg, up_ne, up_at, upf_same, upf_ne, reduceIte, or_true, true_or, Int.reduceToNat, Int.toNat_natCast, tn100, tn200]) (fun j hj => by simp (disch := omega) only [bd_some, lm_e, if_pos, if_neg, up_ne, up_at, upf_same, upf_ne, reduceIte, or_true, true_or, Int.reduceToNat, Int.toNat_natCast, tn100, tn200]) (by simp (disch := omega) only [bd_some, lm_e, if_pos, if_neg, up_ne, up_at, upf_same, upf_ne, reduceIte, or_true, true_or, Int.reduceToNat, Int.toNat_natCast, tn100, tn200]) (fun j hj => by simp (disch := omega) only [bd_some, lm_e, if_pos, if_neg, up_ne, up_at, upf_same, upf_ne, reduceIte, or_true, true_or, Int.reduceToNat, Int.toNat_natCast, tn100, tn200]) (by simp (disch := omega) only [bd_some, lm_e, if_pos, if_neg, up_ne, up_at, upf_same, upf_ne, reduceIte, or_true, true_or, Int.reduceToNat, Int.toNat_natCast, tn100, tn200])
    · obtain ⟨r1, r2, r3⟩ := hrf
      refine ⟨fun j => ?_, fun j => ?_, fun j => ?_⟩
      · have := r1 j
        simp (disch := omega) only [newS_90, newS_ne, bd_some, lm_e, if_pos, if_neg, up_ne, up_at, upf_same, upf_ne, reduceIte, or_true, true_or, Int.reduceToNat, Int.toNat_natCast, tn100, tn200]
        omega
      · have := r2 j
        by_cases hj : j = S
        · subst hj
          simp (disch := omega) only [newS_90, bd_some, lm_e, if_pos, if_neg, up_ne, up_at, upf_same, upf_ne, reduceIte, or_true, true_or, Int.reduceToNat, Int.toNat_natCast, tn100, tn200]
          omega
        · simp (disch := omega) only [newS_90, newS_ne, bd_some, lm_e, if_pos, if_neg, up_ne, up_at, upf_same, upf_ne, reduceIte, or_true, true_or, Int.reduceToNat, Int.toNat_natCast, tn100, tn200]
          omega
      · have := r3 j
        simp (disch := omega) only [newS_90, newS_ne, bd_some, lm_e, if_pos, if_neg, up_ne, up_at, upf_same, upf_ne, reduceIte, or_true, true_or, Int.reduceToNat, Int.toNat_natCast, tn100, tn200]
        omega
