/-! THE PLAN, the reference: rivers, who can, when a stone is laid -/
theorem r_rivers {H : Int → Prop} {R : Int} (hR : 1 ≤ R ∧ R ≤ 200) : ∀ (e n k : Nat) (η : Mem), k + e = 3001 → e < n → η 312 6 = R → (∀ d, f_X11_is η 0 d = some (b2i (H d), η)) → (∀ m : Mem, (∀ a, a ≠ 330 → m a = η a) → ∀ d, f_X11_is m 0 d = some (b2i (H d), m)) → (∀ j, j ≤ k → η 330 (3001 - j) = rafK H R j) → 0 ≤ runK H k → runK H k ≤ (k : Int) → ∃ η', f_X11_rivers_15 n (runK H k) (3000 - (k : Int)) η = some (0, η') ∧ (∀ a, a ≠ 330 → η' a = η a) ∧ (∀ j, j ≤ 3001 → η' 330 (3001 - j) = rafK H R j)
  | 0, n + 1, k, η, h1, h2, h3, h4, h5, h6, h7, h8 => by
    refine ⟨η, ?_, fun _ _ => rfl, fun j hj => h6 j (by omega)⟩
    rw [f_X11_rivers_15_e, if_pos (by omega)]
  | e + 1, n + 1, k, η, h1, h2, h3, h4, h5, h6, h7, h8 => by
    have e1 : runK H (k + 1) = if b2i (H (3000 - (k : Int))) = 1 then runK H k + 1 else 0 := rfl
    have e2 : rafK H R (k + 1) = if R ≤ runK H (k + 1) then 3000 - (k : Int) else rafK H R k := rfl
    have e3 : (3000 - (k : Int)).toNat = 3001 - (k + 1) := by omega
    have e4 : (3000 - (k : Int) + 1).toNat = 3001 - k := by omega
    have e5 : 3000 - (k : Int) + (-1) = 3000 - ((k + 1 : Nat) : Int) := by omega
    have go : ∀ r : Int, r = runK H (k + 1) → 0 ≤ r → r ≤ ((k + 1 : Nat) : Int) → ∃ η', f_X11_rivers_35 (f_X11_rivers_15 n) (3000 - (k : Int)) r η = some (0, η') ∧ (∀ a, a ≠ 330 → η' a = η a) ∧ (∀ j, j ≤ 3001 → η' 330 (3001 - j) = rafK H R j) := by
      intro r hr r0 r1
      have go2 : ∀ z : Int, z = rafK H R (k + 1) → ∃ η', f_X11_rivers_15 n r (3000 - ((k + 1 : Nat) : Int)) (up η 330 (3001 - (k + 1)) z) = some (0, η') ∧ (∀ a, a ≠ 330 → η' a = η a) ∧ (∀ j, j ≤ 3001 → η' 330 (3001 - j) = rafK H R j) := by
        intro z hz
        obtain ⟨η', q1, q2, q3⟩ := r_rivers (H := H) hR e n (k + 1) (up η 330 (3001 - (k + 1)) z) (by omega) (by omega) (by simp (disch := omega) only [bd_some, lm_e, if_pos, if_neg, up_ne, up_at, upf_same, upf_ne, reduceIte, or_true, true_or, Int.reduceToNat, Int.toNat_natCast, tn100, tn200]; exact h3) (fun d => h5 _ (fun a ha => up_ne ha) d) (fun m hm d => h5 m (fun a ha => by rw [hm a ha]; exact up_ne ha) d) (fun j hj => by
          by_cases ej : j = k + 1
          · subst ej; rw [up_at, upf_same]; exact hz
          · rw [up_at, upf_ne (by omega)]; exact h6 j (by omega)) (by omega) (by omega)
        rw [← hr] at q1
        exact ⟨η', q1, fun a ha => by rw [q2 a ha]; exact up_ne ha, q3⟩
      unfold f_X11_rivers_35
      rw [h3]
      by_cases c : r < R
      · obtain ⟨η', q1, q2⟩ := go2 (rafK H R k) (by rw [e2, if_neg (by omega)])
        refine ⟨η', ?_, q2⟩
        rw [if_pos c, if_pos (by omega), if_pos (by omega), lm_e, if_pos (by omega), e3, e4, e5, h6 k (Nat.le_refl k), q1]
      · obtain ⟨η', q1, q2⟩ := go2 (3000 - (k : Int)) (by rw [e2, if_pos (by omega)])
        refine ⟨η', ?_, q2⟩
        rw [if_neg c, if_pos (by omega), lm_e, if_pos (by omega), e3, e5, q1]
    rw [f_X11_rivers_15_e, if_neg (by omega), h4, bd_some]
    by_cases c : H (3000 - (k : Int))
    · rw [b2i_t c, if_pos rfl] at e1
      obtain ⟨η', q1, q2⟩ := go (runK H k + 1) e1.symm (by omega) (by omega)
      refine ⟨η', ?_, q2⟩
      rw [b2i_t c, if_neg (by decide), if_pos (by omega), q1]
    · rw [b2i_f c, if_neg (by decide)] at e1
      obtain ⟨η', q1, q2⟩ := go 0 e1.symm (by omega) (by omega)
      refine ⟨η', ?_, q2⟩
      rw [b2i_f c, if_pos rfl, q1]
/-- what the reference's search leaves alone -/
def rS (ν η : Mem) : Prop := ∀ a, ¬ (321 ≤ a ∧ a ≤ 329) → a ≠ 399 → η a = ν a
theorem rS_tr {a b c : Mem} (h : rS a b) (k : rS b c) : rS a c := fun x h1 h2 => (k x h1 h2).trans (h x h1 h2)
section PR2
variable {ν μ : Mem} {w : Nat → Nat} {n : Nat}
/-- the reference's side: ρ is its memory as the search begins -/
def PQ (ν : Mem) (w : Nat → Nat) (n : Nat) (μ ρ : Mem) : Prop := (∀ a, 301 ≤ a ∧ a ≤ 319 → ρ a = ν a) ∧ (∀ j, j ≠ 32 → ρ 300 j = ν 300 j) ∧ ρ 300 32 = (n : Int) ∧ (∀ i, i < n → ρ 320 i = (w i : Int)) ∧ (∀ j, j ≤ 3001 → ρ 330 (3001 - j) = rafK (Hd μ) (μ 17 6) j)
theorem r_can (h : PR ν w n μ) {ρ η : Mem} (hq : PQ ν w n μ ρ) (hf : rS ρ η) {i g : Nat} (hi : i < n) (hg : (g : Int) < μ 6 5) : f_X11_can η (g : Int) (w i : Int) = some (b2i (leadV ν (μ 17) (μ 6 5) (μ 6 8) (w i) g ≠ -1), η) := by
  have h0 := h
  obtain ⟨hs, ht, hsp, hru, ⟨h75, hn1, hn5⟩, h21, hp⟩ := h
  have hN := sN_of hs
  have n0 := sN_n hN
  obtain ⟨b1, b2, b3⟩ := h21 i hi
  obtain ⟨s0, s1, s2, s3, s4, s5, s6, s7, s8, s9, s10, s11, s12, s13, s14⟩ := sN_s hN (w i) b2
  obtain ⟨z0, z1, z2, z3, z4, z5, z6, z7, -⟩ := sN_g hN g hg
  have E : ∀ a, 301 ≤ a ∧ a ≤ 319 → η a = ν a := fun a ha => (hf a (by omega) (by omega)).trans (hq.1 a ha)
  have E17 : η 300 17 = μ 6 8 := by rw [hf 300 (by omega) (by omega), hq.2.1 17 (by decide)]; omega
  have hse : Isite2 μ η := Isite2_fr hs (fun _ _ => rfl) (fun a ha => by unfold sR at ha; exact E a (by omega)) (by rw [hf 300 (by omega) (by omega)]; exact hq.2.1 1 (by decide)) (by rw [hf 300 (by omega) (by omega)]; exact hq.2.1 2 (by decide)) (by rw [hf 300 (by omega) (by omega)]; exact hq.2.1 16 (by decide)) (by rw [hf 300 (by omega) (by omega)]; exact hq.2.1 17 (by decide)) (by rw [hf 300 (by omega) (by omega)]; exact hq.2.1 26 (by decide))
  have hte : Itab (μ 17) (η 312) := by rw [E 312 (by omega)]; exact ht
  have P : ∀ st : Int, f_X11_pull η (w i : Int) st 0 = some (pullS (ν 315 (w i)) st (μ 17) 0, η) := fun st => by
    have := n_pull (sN_of hse) hte (s := (w i : Int)) (by omega) b2 st 0
    rw [Int.toNat_natCast, E 315 (by omega)] at this
    exact this
  have P4 : pullS (ν 315 (w i)) 4 (μ 17) 0 = pullW (ν 315 (w i)) (μ 17 0) := rfl
  have P1 : pullS (ν 315 (w i)) 1 (μ 17) 0 = pullW (ν 315 (w i)) (μ 17 0) := rfl
  have P3 : pullS (ν 315 (w i)) 3 (μ 17) 0 = pullW (ν 315 (w i)) (μ 17 2) := rfl
  have e302 : η 302 = ν 302 := E 302 (by omega)
  have e301 : η 301 = ν 301 := E 301 (by omega)
  have e316 : η 316 = ν 316 := E 316 (by omega)
  have e317 : η 317 = ν 317 := E 317 (by omega)
  have lb := lead_b h0 hi (g := g)
  have t4 := ht 4 (by decide)
  have t5 := ht 5 (by decide)
  have hmul := pullW_b (w := ν 315 (w i)) (n := μ 17 4) (by omega) s7 (by omega) (by omega)
  have hcut := cut_b (a := ν 315 (w i) * μ 17 4) (m := ν 301 g) hmul.1 hmul.2 z6 z7
  have hl : leadV ν (μ 17) (μ 6 5) (μ 6 8) (w i) g ≠ -1 ↔ (((g : Int) < μ 6 5 ∧ ν 302 g = -1) ∧ (pullW (ν 315 (w i)) (μ 17 0) ≤ ν 301 g ∧ (3 < ν 317 (w i) ∨ (pullW (ν 315 (w i)) (μ 17 2) ≤ ν 301 g ∧ ν 316 (w i) < μ 6 8)))) := by
    unfold leadV
    by_cases c : (((g : Int) < μ 6 5 ∧ ν 302 g = -1) ∧ (pullW (ν 315 (w i)) (μ 17 0) ≤ ν 301 g ∧ (3 < ν 317 (w i) ∨ (pullW (ν 315 (w i)) (μ 17 2) ≤ ν 301 g ∧ ν 316 (w i) < μ 6 8))))
    · rw [if_pos c]
      refine ⟨fun _ => c, fun _ => ?_⟩
      split <;> split <;> omega
    · rw [if_neg c]
      exact ⟨fun x => absurd rfl x, fun x => absurd x c⟩
  rw [b2i_cong hl]
  have k92 : f_X11_can_92 (g : Int) (w i : Int) 1 η = some (b2i (3 < ν 317 (w i) ∨ pullW (ν 315 (w i)) (μ 17 2) ≤ ν 301 g), η) := by
    unfold f_X11_can_92
    rw [if_neg (by decide), if_pos (by omega)]
    simp only [Int.toNat_natCast, e317]
    by_cases c3 : 3 < ν 317 (w i)
    · rw [if_pos c3, b2i_t (Or.inl c3)]
    · rw [if_neg c3, P 3, P3, bd_some, if_pos (by omega), e301]
      by_cases c6 : ν 301 g < pullW (ν 315 (w i)) (μ 17 2)
      · rw [if_pos c6, b2i_f (by omega)]
      · rw [if_neg c6, b2i_t (Or.inr (by omega))]
  have k920 : f_X11_can_92 (g : Int) (w i : Int) 0 η = some (0, η) := by
    unfold f_X11_can_92
    rw [if_pos rfl]
  have k35 : f_X11_can_35 (g : Int) (w i : Int) η = some (b2i (pullW (ν 315 (w i)) (μ 17 0) ≤ ν 301 g ∧ (3 < ν 317 (w i) ∨ pullW (ν 315 (w i)) (μ 17 2) ≤ ν 301 g)), η) := by
    unfold f_X11_can_35 f_X11_can_56 f_X11_can_87 f_X11_can_91
    rw [P 4, P4, bd_some, if_pos (by omega), Int.toNat_natCast, e301]
    by_cases c4 : ν 301 g < pullW (ν 315 (w i)) (μ 17 0)
    · rw [if_pos c4, if_pos rfl, k920, b2i_f (by omega)]
    · have hcg : (3 < ν 317 (w i) ∨ pullW (ν 315 (w i)) (μ 17 2) ≤ ν 301 g) ↔ (pullW (ν 315 (w i)) (μ 17 0) ≤ ν 301 g ∧ (3 < ν 317 (w i) ∨ pullW (ν 315 (w i)) (μ 17 2) ≤ ν 301 g)) := ⟨fun x => ⟨by omega, x⟩, fun x => x.2⟩
      rw [if_neg c4, if_neg (by decide), if_pos (by omega), Int.toNat_natCast, e317]
      by_cases c7 : 1 < ν 317 (w i)
      · rw [if_pos c7, k92, b2i_cong hcg]
      · rw [if_neg c7, P 1, P1, bd_some, if_pos (by omega), e301, if_neg c4, k92, b2i_cong hcg]
  unfold f_X11_can
  rw [if_pos (by omega)]
  simp only [Int.toNat_natCast, e302, e316, e317, E17]
  by_cases c1 : ν 302 g = -1
  case neg => rw [if_neg c1, b2i_f (fun x => c1 x.1.2)]
  rw [if_pos c1, if_pos (by omega)]
  by_cases c3 : 3 < ν 317 (w i)
  · rw [if_pos c3, k35]
    exact congrArg (fun z => some (z, η)) (b2i_cong ⟨fun x => ⟨⟨hg, c1⟩, x.1, Or.inl c3⟩, fun x => ⟨x.2.1, Or.inl c3⟩⟩)
  · rw [if_neg c3]
    by_cases c5 : ν 316 (w i) < μ 6 8
    · rw [if_pos c5, k35]
      refine congrArg (fun z => some (z, η)) (b2i_cong ⟨fun x => ⟨⟨hg, c1⟩, x.1, Or.inr ⟨?_, c5⟩⟩, fun x => ⟨x.2.1, Or.inr ?_⟩⟩)
      · rcases x.2 with y | y
        · exact absurd y c3
        · exact y
      · rcases x.2.2 with y | y
        · exact absurd y c3
        · exact y.1
    · rw [if_neg c5, b2i_f]
      rintro ⟨-, -, x | x⟩
      · exact c3 x
      · exact c5 x.2
theorem r_lay158 {η : Mem} {P : Nat → Nat} {s g : Int} {k : Nat} {i0 : Nat} (hk : k < 5) (hs : 0 ≤ s ∧ s < 30) (hP : ∀ i, i < n → η 321 i = (w (P i) : Int) ∧ (w (P i) : Int) < 30) (hkn : k < n) (he : ∀ i, i < k → 0 ≤ η 324 i ∧ η 324 i ≤ 100000) : ∀ (e m i : Nat) (v : Int), i + e = k → e < m → 0 ≤ v → v ≤ 200000 → ∃ v', f_X11_lays_158 m (k : Int) s g v (i : Int) η = f_X11_lays_226 64 (k : Int) s g v' ((k : Int) + 1) η ∧ v ≤ v' ∧ v' ≤ 200000 ∧ (∀ i', i ≤ i' → i' < k → η 316 (w (P i')) < η 316 s.toNat → η 324 i' + 1 ≤ v') ∧ (v' = v ∨ ∃ i', i ≤ i' ∧ i' < k ∧ η 316 (w (P i')) < η 316 s.toNat ∧ v' = η 324 i' + 1)
  | 0, m + 1, i, v, h1, h2, h3, h4 => by
    refine ⟨v, ?_, Int.le_refl _, h4, fun i' q1 q2 => by omega, Or.inl rfl⟩
    rw [f_X11_lays_158_e, if_pos (by omega), if_pos (by omega)]
  | e + 1, m + 1, i, v, h1, h2, h3, h4 => by
    obtain ⟨p1, p2⟩ := hP i (by omega)
    have hei := he i (by omega)
    have go : ∀ z : Int, v ≤ z → z ≤ 200000 → (η 316 (w (P i)) < η 316 s.toNat → η 324 i + 1 ≤ z) → (z = v ∨ (η 316 (w (P i)) < η 316 s.toNat ∧ z = η 324 i + 1)) → ∃ v', f_X11_lays_158 m (k : Int) s g z ((i : Int) + 1) η = f_X11_lays_226 64 (k : Int) s g v' ((k : Int) + 1) η ∧ v ≤ v' ∧ v' ≤ 200000 ∧ (∀ i', i ≤ i' → i' < k → η 316 (w (P i')) < η 316 s.toNat → η 324 i' + 1 ≤ v') ∧ (v' = v ∨ ∃ i', i ≤ i' ∧ i' < k ∧ η 316 (w (P i')) < η 316 s.toNat ∧ v' = η 324 i' + 1) := by
      intro z z1 z2 z3 z4
      obtain ⟨v', q1, q2, q3, q4, q5⟩ := r_lay158 (g := g) (i0 := i0) hk hs hP hkn he e m (i + 1) z (by omega) (by omega) (by omega) z2
      rw [show ((i + 1 : Nat) : Int) = (i : Int) + 1 by omega] at q1
      refine ⟨v', q1, by omega, q3, fun i' x1 x2 x3 => ?_, ?_⟩
      · by_cases ei : i' = i
        · subst ei
          have := z3 x3
          omega
        · exact q4 i' (by omega) x2 x3
      · rcases q5 with q5 | ⟨i', x1, x2, x3, x4⟩
        · rcases z4 with z4 | ⟨z4, z5⟩
          · exact Or.inl (by omega)
          · exact Or.inr ⟨i, Nat.le_refl i, by omega, z4, by omega⟩
        · exact Or.inr ⟨i', by omega, x2, x3, x4⟩
    rw [f_X11_lays_158_e, if_neg (by omega), if_pos (by omega)]
    simp only [Int.toNat_natCast, p1]
    rw [if_pos (by omega), if_pos hs]
    by_cases c : η 316 s.toNat ≤ η 316 (w (P i))
    · rw [if_pos c, if_pos (by omega)]
      exact go v (Int.le_refl _) h4 (fun x => by omega) (Or.inl rfl)
    · rw [if_neg c, if_pos (by omega)]
      by_cases c2 : η 324 i + 1 ≤ v
      · rw [if_pos c2, if_pos (by omega)]
        exact go v (Int.le_refl _) h4 (fun x => by omega) (Or.inl rfl)
      · rw [if_neg c2, if_pos (by omega)]
        exact go (η 324 i + 1) (by omega) (by omega) (fun x => by omega) (Or.inr ⟨by omega, rfl⟩)
theorem r_lay226 {η : Mem} {P : Nat → Nat} {s : Int} {g k : Nat} {v : Int} (hn : n ≤ 5) (hk : k < n) (hg : g < 6) (hs : 0 ≤ s ∧ s < 30) (h32 : η 300 32 = (n : Int)) (hP : ∀ i, i < n → η 321 i = (w (P i) : Int) ∧ (w (P i) : Int) < 30) (hv : 0 ≤ v ∧ v ≤ 200000) : ∀ (e m i : Nat), i + e = n → e < m → (f_X11_lays_226 m (k : Int) s (g : Int) v (i : Int) η = some (0, η) ∧ ∃ i', i ≤ i' ∧ i' < n ∧ η 316 (w (P i')) < η 316 s.toNat) ∨ (f_X11_lays_226 m (k : Int) s (g : Int) v (i : Int) η = some (if 3000 < v then 0 else 1, up (up η 324 k v) 329 g (v + 1)) ∧ ∀ i', i ≤ i' → i' < n → ¬ η 316 (w (P i')) < η 316 s.toNat)
  | 0, m + 1, i, h1, h2 => by
    right
    refine ⟨?_, fun i' q1 q2 => by omega⟩
    rw [f_X11_lays_226_e, if_pos (by omega), if_pos (by omega), lm_e, if_pos (by omega), if_pos (by omega), lm_e]
    simp only [Int.toNat_natCast]
    by_cases c : 3000 < v
    · rw [if_pos c, if_pos c]
    · rw [if_neg c, if_neg c]
  | e + 1, m + 1, i, h1, h2 => by
    obtain ⟨p1, p2⟩ := hP i (by omega)
    rw [f_X11_lays_226_e, if_neg (by omega), if_pos (by omega)]
    simp only [Int.toNat_natCast, p1]
    rw [if_pos (by omega), if_pos hs]
    by_cases c : η 316 s.toNat ≤ η 316 (w (P i))
    · rw [if_pos c, if_pos (by omega), show (i : Int) + 1 = ((i + 1 : Nat) : Int) by omega]
      rcases r_lay226 hn hk hg hs h32 hP hv e m (i + 1) (by omega) (by omega) with ⟨q1, i', x1, x2, x3⟩ | ⟨q1, q2⟩
      · exact Or.inl ⟨q1, i', by omega, x2, x3⟩
      · refine Or.inr ⟨q1, fun i' x1 x2 x3 => ?_⟩
        by_cases ei : i' = i
        · subst ei; omega
        · exact q2 i' (by omega) x2 x3
    · rw [if_neg c]
      exact Or.inl ⟨rfl, i, Nat.le_refl i, by omega, by omega⟩
end PR2
