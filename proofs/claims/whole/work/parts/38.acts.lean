/-! RAISE, CALLOFF, SEND -/
theorem e_gangAt {μ ν : Mem} (h : Isite2 μ ν) {a : Int} (h0 : 0 ≤ a) (h1 : a < μ 6 5) : f_X3_gangAt μ a = some (200 + (a.toNat : Int), μ) := by
  obtain ⟨n0, hm, ⟨g1, g2⟩, -⟩ := h
  unfold Inum2 at n0
  obtain ⟨z0, -⟩ := g1 a.toNat (by omega)
  unfold f_X3_gangAt
  simp (disch := omega) only [z0, bd_some, lm_e, if_pos, if_neg, up_ne, up_at, upf_same, upf_ne, reduceIte, or_true, true_or, Int.reduceToNat, Int.toNat_natCast, tn100, tn200]
theorem e_gangAt_n {μ ν : Mem} (h : Isite2 μ ν) {a : Int} (h0 : ¬ (0 ≤ a ∧ a < μ 6 5)) : f_X3_gangAt μ a = some (-1, μ) := by
  unfold f_X3_gangAt
  by_cases hn : a < 0
  · simp (disch := omega) only [bd_some, lm_e, if_pos, if_neg, up_ne, up_at, upf_same, upf_ne, reduceIte, or_true, true_or, Int.reduceToNat, Int.toNat_natCast, tn100, tn200]
  · simp (disch := omega) only [bd_some, lm_e, if_pos, if_neg, up_ne, up_at, upf_same, upf_ne, reduceIte, or_true, true_or, Int.reduceToNat, Int.toNat_natCast, tn100, tn200]
theorem e_stoneAt {μ ν : Mem} (h : Isite2 μ ν) {a : Int} (h0 : 0 ≤ a) (h1 : a < μ 6 6) : f_X3_stoneAt μ a = some (100 + (a.toNat : Int), μ) := by
  obtain ⟨n0, hm, -, ⟨g1, g2⟩, -⟩ := h
  unfold Inum2 at n0
  obtain ⟨z0, -⟩ := g1 a.toNat (by omega)
  unfold f_X3_stoneAt
  simp (disch := omega) only [z0, bd_some, lm_e, if_pos, if_neg, up_ne, up_at, upf_same, upf_ne, reduceIte, or_true, true_or, Int.reduceToNat, Int.toNat_natCast, tn100, tn200]
theorem e_stoneAt_n {μ ν : Mem} (h : Isite2 μ ν) {a : Int} (h0 : ¬ (0 ≤ a ∧ a < μ 6 6)) : f_X3_stoneAt μ a = some (-1, μ) := by
  unfold f_X3_stoneAt
  by_cases hn : a < 0
  · simp (disch := omega) only [bd_some, lm_e, if_pos, if_neg, up_ne, up_at, upf_same, upf_ne, reduceIte, or_true, true_or, Int.reduceToNat, Int.toNat_natCast, tn100, tn200]
  · simp (disch := omega) only [bd_some, lm_e, if_pos, if_neg, up_ne, up_at, upf_same, upf_ne, reduceIte, or_true, true_or, Int.reduceToNat, Int.toNat_natCast, tn100, tn200]
theorem e_isRampRaised_2 {μ ν : Mem} (h : Isite2 μ ν) : ∀ (d n : Nat) (v : Int), 0 ≤ v → v + (d : Int) = μ 6 5 → d < n → f_X3_isRampRaised_2 n v μ = some (b2i (∃ g : Nat, v ≤ (g : Int) ∧ (g : Int) < μ 6 5 ∧ ν 302 g = 30), μ)
  | 0, n + 1, v, h0, h1, h2 => by
    rw [f_X3_isRampRaised_2_e, b2i_f (by rintro ⟨g, q1, q2, q3⟩; omega)]
    simp (disch := omega) only [bd_some, lm_e, if_pos, if_neg, up_ne, up_at, upf_same, upf_ne, reduceIte, or_true, true_or, Int.reduceToNat, Int.toNat_natCast, tn100, tn200]
  | d + 1, n + 1, v, h0, h1, h2 => by
    rw [f_X3_isRampRaised_2_e]
    have ih := e_isRampRaised_2 h d n (v + 1) (by omega) (by omega) (by omega)
    obtain ⟨n0, hm, ⟨g1, g2⟩, -⟩ := h
    unfold Inum2 at n0
    obtain ⟨z0, z1, z2, -⟩ := g1 v.toNat (by omega)
    by_cases hc : ν 302 v.toNat = 30
    · rw [b2i_t ⟨v.toNat, by omega, by omega, hc⟩]
      simp (disch := omega) only [z0, tn200, z2, bd_some, lm_e, if_pos, if_neg, up_ne, up_at, upf_same, upf_ne, reduceIte, or_true, true_or, Int.reduceToNat, Int.toNat_natCast, tn100, tn200]
    · rw [b2i_cong (q := ∃ g : Nat, v + 1 ≤ (g : Int) ∧ (g : Int) < μ 6 5 ∧ ν 302 g = 30)]
      · simp (disch := omega) only [z0, tn200, z2, bd_some, lm_e, if_pos, if_neg, up_ne, up_at, upf_same, upf_ne, reduceIte, or_true, true_or, Int.reduceToNat, Int.toNat_natCast, tn100, tn200]
        exact ih
      · constructor
        · rintro ⟨g, q1, q2, q3⟩
          refine ⟨g, ?_, q2, q3⟩
          by_cases he : (g : Int) = v
          · exfalso; apply hc; rw [← he]; simpa using q3
          · omega
        · rintro ⟨g, q1, q2, q3⟩
          exact ⟨g, by omega, q2, q3⟩
theorem e_isRampRaised {μ ν : Mem} (h : Isite2 μ ν) : f_X3_isRampRaised μ = some (b2i (∃ g : Nat, (g : Int) < μ 6 5 ∧ ν 302 g = 30), μ) := by
  have n0 := h.1
  unfold Inum2 at n0
  unfold f_X3_isRampRaised
  rw [e_isRampRaised_2 h (μ 6 5).toNat 64 0 (by omega) (by omega) (by omega)]
  refine congrArg (fun z => some (z, μ)) (b2i_cong ?_)
  constructor
  · rintro ⟨g, -, q⟩; exact ⟨g, q⟩
  · rintro ⟨g, q⟩; exact ⟨g, by omega, q⟩
theorem firstW_ex (w : Nat → Int) (a : Int) : ∀ G : Nat, ∃ r, firstW w (G : Int) a r
  | 0 => ⟨-1, Or.inl ⟨rfl, fun g hg => by omega⟩⟩
  | G + 1 => by
    obtain ⟨r, hr⟩ := firstW_ex w a G
    rcases hr with ⟨rfl, h⟩ | ⟨h0, h1, h2, h3⟩
    · by_cases hc : w G = a
      · exact ⟨(G : Int), Or.inr ⟨by omega, by omega, by simpa using hc, fun g hg => h g (by omega)⟩⟩
      · refine ⟨-1, Or.inl ⟨rfl, fun g hg => ?_⟩⟩
        by_cases hg2 : g = G
        · rw [hg2]; exact hc
        · exact h g (by omega)
    · exact ⟨r, Or.inr ⟨h0, by omega, h2, h3⟩⟩
theorem firstW_n {w : Nat → Int} {G a r : Int} (h : firstW w G a r) : r = -1 ↔ ∀ g : Nat, (g : Int) < G → w g ≠ a := by
  rcases h with ⟨rfl, h⟩ | ⟨h0, h1, h2, h3⟩
  · exact ⟨fun _ => h, fun _ => rfl⟩
  · constructor
    · intro he; omega
    · intro he
      exact absurd h2 (he r.toNat (by omega))
/-- what of the class's memory a call on the site leaves alone, and of the reference's -/
def frC (μ μ' : Mem) : Prop := ∀ a, ¬ (a = 6 ∨ (100 ≤ a ∧ a < 300)) → μ' a = μ a
def frR (ν ν' : Mem) : Prop := ∀ a, ¬ sR a → ν' a = ν a
theorem Inv2_site {μ ν μ' ν' : Mem} (h : Inv2 μ ν) (hs : Isite2 μ' ν') (hc : frC μ μ') (hr : ∀ a, ¬ sR a → a ≠ 300 → ν' a = ν a) (h300 : ∀ j, j = 3 ∨ j = 4 ∨ j = 15 ∨ j = 19 ∨ j = 33 ∨ j = 45 → ν' 300 j = ν 300 j) : Inv2 μ' ν' := by
  obtain ⟨a1, a2, a3, a4, a5, a6, a7, a8, a9, a10⟩ := h
  unfold frC at hc
  unfold sR at hr
  unfold Inv2
  have b7 : Irefs μ' := Irefs_fr a7 (hc _ (by omega)) (hc _ (by omega)) (hc _ (by omega)) (hc _ (by omega))
  rw [hc 2 (by omega), hc 14 (by omega), hc 15 (by omega), h300 3 (by omega), h300 4 (by omega), h300 15 (by omega), h300 19 (by omega), h300 33 (by omega), h300 45 (by omega), hr 306 (by omega) (by omega), hr 307 (by omega) (by omega), hc 1 (by omega), hc 9 (by omega), hc 10 (by omega), hc 11 (by omega), hr 308 (by omega) (by omega), hr 309 (by omega) (by omega), hr 310 (by omega) (by omega), hc 12 (by omega), hc 13 (by omega), hc 3 (by omega), hc 16 (by omega), hr 311 (by omega) (by omega), hc 17 (by omega), hr 312 (by omega) (by omega), hc 7 (by omega), hc 8 (by omega), hc 32 (by omega), hc 33 (by omega), hc 34 (by omega), hc 35 (by omega), hr 331 (by omega) (by omega), hr 332 (by omega) (by omega), hr 333 (by omega) (by omega), hr 334 (by omega) (by omega)]
  exact ⟨a1, a2, a3, a4, a5, hs, b7, Iplan2_fr a8 (fun a h1 h2 => hc a (by omega)) (fun a h1 h2 => hr a (by omega) (by omega)), a9, a10⟩
