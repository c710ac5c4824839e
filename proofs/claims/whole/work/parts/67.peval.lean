/-! THE PLAN, the reference: an order with its gangs -/
theorem perm_surj : ∀ (n : Nat) (P : Nat → Nat), (∀ k, k < n → P k < n) → (∀ j k, j < k → k < n → P j ≠ P k) → ∀ j, j < n → ∃ k, k < n ∧ P k = j
  | 0, P, _, _, j, hj => by omega
  | n + 1, P, h1, h2, j, hj => by
    have hn := h1 n (by omega)
    have ih := perm_surj n (fun k => if P k = n then P n else P k) (fun k hk => by
      show (if P k = n then P n else P k) < n
      have a := h1 k (by omega)
      have b := h2 k n hk (by omega)
      split <;> omega) (fun a b hab hb => by
      show (if P a = n then P n else P a) ≠ (if P b = n then P n else P b)
      have x := h2 a b hab (by omega)
      have y := h2 a n (by omega) (by omega)
      have z := h2 b n (by omega) (by omega)
      split <;> split <;> omega)
    by_cases e : j = P n
    · exact ⟨n, by omega, e.symm⟩
    · by_cases e2 : j = n
      · obtain ⟨k, k1, k2⟩ := ih (P n) (by omega)
        have k2' : (if P k = n then P n else P k) = P n := k2
        have y := h2 k n k1 (by omega)
        by_cases c : P k = n
        · exact ⟨k, by omega, by omega⟩
        · rw [if_neg c] at k2'
          exact absurd k2' y
      · obtain ⟨k, k1, k2⟩ := ih j (by omega)
        have k2' : (if P k = n then P n else P k) = j := k2
        by_cases c : P k = n
        · rw [if_pos c] at k2'
          exact absurd k2'.symm e
        · rw [if_neg c] at k2'
          exact ⟨k, by omega, k2'⟩
section PR2
variable {ν μ : Mem} {w : Nat → Nat} {n : Nat}
theorem r_lays (h : PR ν w n μ) {ρ η : Mem} (hq : PQ ν w n μ ρ) (hf : rS ρ η) {P : Nat → Nat} (hPn : ∀ k, k < n → P k < n) (hinj : ∀ j k, j < k → k < n → P j ≠ P k) (hord : ∀ i, i < n → η 321 i = (w (P i) : Int)) {k g : Nat} (hk : k < n) (hby : η 322 k = (g : Int)) (hg : (g : Int) < μ 6 5) (hl : leadV ν (μ 17) (μ 6 5) (μ 6 8) (w (P k)) g ≠ -1) {Y : Nat → Int} (hF : 0 ≤ η 329 g ∧ η 329 g ≤ 3001) (hYe : ∀ m, m < k → Y (P m) = η 324 m ∧ 0 ≤ η 324 m ∧ η 324 m ≤ 3000) (hYn : ∀ m, k ≤ m → m < n → Y (P m) = -1) (hYb : ∀ j, -1 ≤ Y j) : ∃ r η', f_X11_lays η (k : Int) = some (r, η') ∧ ((layPd n (rdyZ ν w n μ) (crsM ν w) (η 329) Y (P k) g ≠ -1 ∧ r = 1 ∧ η' = up (up (up η 323 k (η 329 g)) 324 k (layPd n (rdyZ ν w n μ) (crsM ν w) (η 329) Y (P k) g)) 329 g (layPd n (rdyZ ν w n μ) (crsM ν w) (η 329) Y (P k) g + 1)) ∨ (layPd n (rdyZ ν w n μ) (crsM ν w) (η 329) Y (P k) g = -1 ∧ r = 0 ∧ (∀ a, a ≠ 323 → a ≠ 324 → a ≠ 329 → η' a = η a))) := by
  have h0 := h
  obtain ⟨hs, ht, hsp, hru, ⟨h75, hn1, hn5⟩, h21, hp⟩ := h
  have hN := sN_of hs
  have n0 := sN_n hN
  have hPk := hPn k hk
  obtain ⟨b1, b2, b3⟩ := h21 (P k) hPk
  obtain ⟨s0, s1, s2, s3, s4, s5, s6, s7, s8, s9, s10, s11, s12, s13, s14⟩ := sN_s hN (w (P k)) b2
  obtain ⟨z0, z1, z2, z3, z4, z5, z6, z7, -⟩ := sN_g hN g hg
  have E : ∀ a, 301 ≤ a ∧ a ≤ 319 → η a = ν a := fun a ha => (hf a (by omega) (by omega)).trans (hq.1 a ha)
  have lb := lead_b h0 hPk (g := g)
  have t4 := ht 4 (by decide)
  have t5 := ht 5 (by decide)
  have t6 := ht 6 (by decide)
  have hmul := pullW_b (w := ν 315 (w (P k))) (n := μ 17 4) (by omega) s7 (by omega) (by omega)
  have hcut := cut_b (a := ν 315 (w (P k)) * μ 17 4) (m := ν 301 g) hmul.1 hmul.2 z6 z7
  have hL : leadV ν (μ 17) (μ 6 5) (μ 6 8) (w (P k)) g = (if ν 317 (w (P k)) = 0 then (ν 315 (w (P k)) * μ 17 4 + ν 301 g - 1) / ν 301 g else 0) + (if ν 317 (w (P k)) ≤ 1 then μ 17 5 else 0) := by
    unfold leadV at hl ⊢
    split at hl
    · next c => rw [if_pos c]
    · exact absurd rfl hl
  have hrdy : rdyZ ν w n μ (P k) g (η 329 g) = rdyM ν w μ (P k) g (η 329 g) := by unfold rdyZ; rw [if_pos hPk]
  have hdef : layPd n (rdyZ ν w n μ) (crsM ν w) (η 329) Y (P k) g = layTo (crsM ν w) Y (P k) n (rdyM ν w μ (P k) g (η 329 g)) := by
    unfold layPd
    rw [hrdy]
  rw [hdef]
  have hrb := (rdy_b h0 (P k) g (η 329 g) hPk).1
  have hlc := layTo_c (crs := crsM ν w) (Y := Y) (i := P k) (d := rdyM ν w μ (P k) g (η 329 g)) hrb.1 n (fun j _ => hYb j)
  have hrd : rdyM ν w μ (P k) g (η 329 g) = rdyV ν (μ 17) (μ 6 5) (μ 6 8) (Hd μ) w (P k) g (η 329 g) := rfl
  unfold rdyV at hrd
  rw [if_neg (show ¬ (η 329 g < 0 ∨ leadV ν (μ 17) (μ 6 5) (μ 6 8) (w (P k)) g = -1) by omega)] at hrd
  -- up to the raft
  have e321 := hord k hk
  let η3 : Mem := up η 323 k (η 329 g)
  have hη3 : η3 = up η 323 k (η 329 g) := rfl
  have E3 : ∀ a, a ≠ 323 → η3 a = η a := fun a ha => up_ne ha
  have e301 : η3 301 = ν 301 := (E3 301 (by decide)).trans (E 301 (by omega))
  have e312 : ∀ i : Nat, i < 9 → η3 312 i = μ 17 i := fun i hi => by rw [E3 312 (by decide), E 312 (by omega)]; exact (ht i hi).1
  have e315 : η3 315 = ν 315 := (E3 315 (by decide)).trans (E 315 (by omega))
  have e316 : η3 316 = ν 316 := (E3 316 (by decide)).trans (E 316 (by omega))
  have e317 : η3 317 = ν 317 := (E3 317 (by decide)).trans (E 317 (by omega))
  have A : f_X11_lays η (k : Int) = f_X11_lays_94 (k : Int) (w (P k) : Int) (g : Int) (η 329 g + leadV ν (μ 17) (μ 6 5) (μ 6 8) (w (P k)) g) η3 := by
    unfold f_X11_lays
    rw [if_pos (by omega), Int.toNat_natCast, hby, if_pos (by omega), Int.toNat_natCast, lm_e, e321, if_pos (by omega), Int.toNat_natCast, ← hη3, e317, e301, e315, e312 4 (by decide)]
    have k73 : ∀ v : Int, 0 ≤ v → v ≤ 100000 → f_X11_lays_73 (k : Int) (w (P k) : Int) (g : Int) v η3 = f_X11_lays_94 (k : Int) (w (P k) : Int) (g : Int) (v + (if ν 317 (w (P k)) ≤ 1 then μ 17 5 else 0)) η3 := by
      intro v v0 v1
      unfold f_X11_lays_73
      rw [if_pos (by omega), Int.toNat_natCast, e317]
      by_cases c : 1 < ν 317 (w (P k))
      · rw [if_pos c, if_neg (by omega), Int.add_zero]
      · rw [if_neg c, e312 5 (by decide), if_pos (by omega), if_pos (by omega)]
    by_cases c : ν 317 (w (P k)) = 0
    · rw [if_pos c, if_pos (by omega), zdiv_e (by omega) (by omega) (by omega) (by omega), if_pos (by omega), k73 _ (by omega) (by omega), hL, if_pos c, Int.add_assoc]
    · rw [if_neg c, k73 _ (by omega) (by omega), hL, if_neg c, Int.zero_add]
  generalize leadV ν (μ 17) (μ 6 5) (μ 6 8) (w (P k)) g = L at hl lb hrd A
  clear hL
  -- up to the ramp's top
  have k132 : ∀ v : Int, 0 ≤ v → v ≤ 100000 → f_X11_lays_132 (k : Int) (w (P k) : Int) (g : Int) v η3 = f_X11_lays_158 64 (k : Int) (w (P k) : Int) (g : Int) (v + (if ν 317 (w (P k)) ≤ 3 then ν 316 (w (P k)) + 1 else 0)) 0 η3 := by
    intro v v0 v1
    unfold f_X11_lays_132
    rw [if_pos (by omega), Int.toNat_natCast, e317, e316]
    by_cases c : 3 < ν 317 (w (P k))
    · rw [if_pos c, if_neg (by omega), Int.add_zero]
    · rw [if_neg c, if_pos (by omega), if_pos (by omega)]
  -- the lesser courses
  have fin : ∀ v : Int, 0 ≤ v → v ≤ 150000 → rdyM ν w μ (P k) g (η 329 g) = (if v ≤ 3000 then v else -1) → f_X11_lays η (k : Int) = f_X11_lays_158 64 (k : Int) (w (P k) : Int) (g : Int) v 0 η3 → ∃ r η', f_X11_lays η (k : Int) = some (r, η') ∧ ((layTo (crsM ν w) Y (P k) n (rdyM ν w μ (P k) g (η 329 g)) ≠ -1 ∧ r = 1 ∧ η' = up (up (up η 323 k (η 329 g)) 324 k (layTo (crsM ν w) Y (P k) n (rdyM ν w μ (P k) g (η 329 g)))) 329 g (layTo (crsM ν w) Y (P k) n (rdyM ν w μ (P k) g (η 329 g)) + 1)) ∨ (layTo (crsM ν w) Y (P k) n (rdyM ν w μ (P k) g (η 329 g)) = -1 ∧ r = 0 ∧ (∀ a, a ≠ 323 → a ≠ 324 → a ≠ 329 → η' a = η a))) := by
    intro v v0 v1 hv hA
    have hP3 : ∀ i, i < n → η3 321 i = (w (P i) : Int) ∧ (w (P i) : Int) < 30 := fun i hi => by
      rw [E3 321 (by decide)]
      have := (h21 (P i) (hPn i hi)).2.1
      exact ⟨hord i hi, by omega⟩
    obtain ⟨v', q1, q2, q3, q4, q5⟩ := r_lay158 (w := w) (n := n) (η := η3) (P := P) (s := (w (P k) : Int)) (g := (g : Int)) (k := k) (i0 := 0) (by omega) (by omega) hP3 hk (fun i hi => by rw [E3 324 (by decide)]; have := hYe i hi; omega) k 64 0 v (by omega) (by omega) v0 (by omega)
    rw [show ((0 : Nat) : Int) = 0 from rfl] at q1
    rw [e316, Int.toNat_natCast, E3 324 (by decide)] at q4 q5
    have h32 : η3 300 32 = (n : Int) := by rw [E3 300 (by decide), hf 300 (by omega) (by omega)]; exact hq.2.2.1
    rw [hv] at hlc ⊢
    rcases r_lay226 (w := w) (n := n) (η := η3) (P := P) (s := (w (P k) : Int)) (g := g) (k := k) (v := v') hn5 hk (by omega) (by omega) h32 hP3 (by omega) (n - (k + 1)) 64 (k + 1) (by omega) (by omega) with ⟨x1, i', x2, x3, x4⟩ | ⟨x1, x2⟩
    · rw [show ((k + 1 : Nat) : Int) = (k : Int) + 1 by omega] at x1
      rw [e316, Int.toNat_natCast] at x4
      refine ⟨0, η3, by rw [hA, q1, x1], Or.inr ⟨?_, rfl, fun a a1 _ _ => E3 a a1⟩⟩
      rcases hlc with ⟨y, -⟩ | ⟨y1, y2, y3, -⟩
      · exact y
      · exact absurd (hYn i' (by omega) x3) (y3 (P i') (hPn i' x3) x4).1
    · rw [show ((k + 1 : Nat) : Int) = (k : Int) + 1 by omega] at x1
      rw [e316, Int.toNat_natCast] at x2
      have surj := perm_surj n P hPn hinj
      by_cases c : 3000 < v'
      · refine ⟨0, _, by rw [hA, q1, x1, if_pos c], Or.inr ⟨?_, rfl, fun a a1 a2 a3 => by rw [up_ne a3, up_ne a2]; exact E3 a a1⟩⟩
        rcases hlc with ⟨y, -⟩ | ⟨y1, y2, y3, y4, -⟩
        · exact y
        · exfalso
          rcases q5 with q5 | ⟨i', i1, i2, i3, i4⟩
          · rw [if_neg (by omega)] at y2
            exact y2 rfl
          · have a := y3 (P i') (hPn i' (by omega)) i3
            have b := hYe i' i2
            omega
      · have hvv : v ≤ 3000 := by omega
        rw [if_pos hvv] at hlc ⊢
        have key : layTo (crsM ν w) Y (P k) n v ≠ -1 ∧ layTo (crsM ν w) Y (P k) n v = v' := by
          have less : ∀ j, j < n → crsM ν w j < crsM ν w (P k) → ∃ m, m < k ∧ P m = j := by
            intro j hj hc
            obtain ⟨m, m1, m2⟩ := surj j hj
            refine ⟨m, ?_, m2⟩
            rcases Nat.lt_trichotomy m k with z | z | z
            · exact z
            · rw [← m2, z] at hc; omega
            · exact absurd (show ν 316 (w (P m)) < ν 316 (w (P k)) by rw [m2]; exact hc) (x2 m (by omega) m1)
          rcases hlc with ⟨y, y2⟩ | ⟨y1, y2, y3, y4, y5⟩
          · exfalso
            rcases y2 with y2 | ⟨j, j1, j2, j3⟩
            · omega
            · obtain ⟨m, m1, m2⟩ := less j j1 j2
              have a := hYe m m1
              rw [m2] at a
              have b := q4 m (Nat.zero_le _) m1 (show ν 316 (w (P m)) < ν 316 (w (P k)) by rw [m2]; exact j2)
              omega
          · refine ⟨y1, ?_⟩
            have le1 : v' ≤ layTo (crsM ν w) Y (P k) n v := by
              rcases q5 with q5 | ⟨i', i1, i2, i3, i4⟩
              · omega
              · have a := y3 (P i') (hPn i' (by omega)) i3
                have b := hYe i' i2
                omega
            have le2 : layTo (crsM ν w) Y (P k) n v ≤ v' := by
              rcases y5 with y5 | ⟨j, j1, j2, j3⟩
              · omega
              · obtain ⟨m, m1, m2⟩ := less j j1 j2
                have a := hYe m m1
                rw [m2] at a
                have b := q4 m (Nat.zero_le _) m1 (show ν 316 (w (P m)) < ν 316 (w (P k)) by rw [m2]; exact j2)
                omega
            omega
        rw [key.2]
        exact ⟨1, _, by rw [hA, q1, x1, if_neg c], Or.inl ⟨by omega, rfl, rfl⟩⟩
  unfold f_X11_lays_94 at A
  rw [if_pos (by omega), Int.toNat_natCast, e317] at A
  by_cases c2 : 2 < ν 317 (w (P k))
  · rw [if_pos c2, k132 _ (by omega) (by omega)] at A
    rw [if_neg (show ¬ ν 317 (w (P k)) ≤ 2 by omega)] at hrd
    refine fin _ ?_ ?_ hrd A
    · split <;> omega
    · split <;> omega
  · have hrf : f_X11_raftFrom η3 (η 329 g + L) = some (rft (Hd μ) (μ 17 6) (η 329 g + L), η3) := by
      unfold f_X11_raftFrom rft
      by_cases c : η 329 g + L ≤ 3000
      · rw [if_pos c, if_pos (by omega), if_pos c, E3 330 (by decide), hf 330 (by omega) (by omega)]
        have := hq.2.2.2.2 (3001 - (η 329 g + L)).toNat (by omega)
        rw [show 3001 - (3001 - (η 329 g + L)).toNat = (η 329 g + L).toNat by omega] at this
        rw [this]
      · rw [if_neg c, if_neg c]
    have hrbb := rft_b (Hd_b h0) (show 1 ≤ μ 17 6 by omega) (show 0 ≤ η 329 g + L by omega)
    rw [if_pos (show ν 317 (w (P k)) ≤ 2 by omega)] at hrd
    rw [if_neg c2, hrf, bd_some] at A
    generalize rft (Hd μ) (μ 17 6) (η 329 g + L) = r at A hrbb hrd
    by_cases c3 : r = -1
    · rw [if_pos c3] at A hrd
      refine ⟨0, η3, A, Or.inr ⟨?_, rfl, fun a a1 _ _ => E3 a a1⟩⟩
      have := layTo_neg (crs := crsM ν w) (Y := Y) (i := P k) (d := rdyM ν w μ (P k) g (η 329 g)) n 0 hrd
      rw [Nat.zero_add] at this
      exact this
    · rw [if_neg c3] at A hrd
      rw [e312 6 (by decide), if_pos (by omega), k132 _ (by omega) (by omega), if_pos (show ν 317 (w (P k)) ≤ 3 by omega)] at A
      exact fin _ (by omega) (by omega) hrd A
end PR2
