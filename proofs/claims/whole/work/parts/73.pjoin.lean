/-! THE PLAN: the two ends -/
theorem nr_ok {η : Mem} (h : ∀ j, η 19 j < 300 ∧ η 20 j < 300 ∧ η 21 j < 300) : nr399 η = true := by
  unfold nr399
  rw [List.all_eq_true]
  intro j _
  simp only [Bool.and_eq_true, decide_eq_true_eq]
  exact ⟨⟨(h j).1, (h j).2.1⟩, (h j).2.2⟩
section PT
variable {ν μ : Mem} {w : Nat → Nat} {n : Nat}
theorem vd_of (h : PR ν w n μ) {GG : Nat} (hGG : μ 6 5 = (GG : Int)) {now D : Int} (hD : D ≤ 3000) {P B : Nat → Nat} (hs : sched n (rdyZ ν w n μ) (crsM ν w) D (plz P B 0 n) (fun _ => now) (fun _ => -1)) : Vd ν w n μ GG now P B := by
  have hrz := (sr_of h (fS2_rf (μ := μ))).2.1
  refine ⟨fun k hk => (sched_pos hrz n 0 _ _ (fun _ _ => by decide) hs k (Nat.zero_le _) (by omega)).1, fun k hk => ?_, sched_mono hD _ _ _ hs⟩
  have hl := sched_lead h n 0 _ _ (fun _ => by decide) hs k (Nat.zero_le _) (by omega)
  by_cases c : B k < GG
  · exact c
  · exfalso
    apply hl
    unfold leadV
    rw [if_neg]
    rintro ⟨⟨c1, -⟩, -⟩
    omega
/-- what the reference ends with -/
def refEnd (ν : Mem) (w : Nat → Nat) (n : Nat) (μ : Mem) (GG : Nat) (ρ : Mem) (v : Int) (η : Mem) : Prop :=
  (v = -1 ∧ η 300 33 = ρ 300 33 ∧ (∀ a, 325 ≤ a → a ≤ 328 → η a = ρ a) ∧ ∀ P B, ¬ Vd ν w n μ GG (μ 6 9) P B) ∨
  (η 300 33 = (n : Int) ∧ ∃ Pb Bb, Vd ν w n μ GG (μ 6 9) Pb Bb ∧ v = valP ν w n μ (μ 6 9) Pb Bb ∧ tbP ν w n μ (μ 6 9) η Pb Bb ∧ ∀ P B, Vd ν w n μ GG (μ 6 9) P B → v < valP ν w n μ (μ 6 9) P B ∨ (v = valP ν w n μ (μ 6 9) P B ∧ LEc n GG Pb Bb P B))
theorem r_ptail (h : PR ν w n μ) {ρ : Mem} (hq : PQ ν w n μ ρ) (h399 : ∀ k, ρ 399 k = 0) (hnr : ∀ j, ρ 19 j < 300 ∧ ρ 20 j < 300 ∧ ρ 21 j < 300) (hnow : μ 6 9 ≤ 3001) {GG : Nat} (hGG : μ 6 5 = (GG : Int)) : ∃ v η, (if (ρ 300 2) ≤ 0 then (f_X11_plan_112 4000 (-1) 0 ρ) else (f_X11_plan_112 4000 (-1) 1 ρ)) = some (v, η) ∧ (∀ a, ¬ (321 ≤ a ∧ a ≤ 329) → a ≠ 399 → a ≠ 300 → η a = ρ a) ∧ (∀ j, j ≠ 33 → η 300 j = ρ 300 j) ∧ refEnd ν w n μ GG ρ v η := by
  obtain ⟨h75, hn1, hn5⟩ := h.2.2.2.2.1
  have n0 := sN_n (sN_of h.1)
  have e2 : ρ 300 2 = (GG : Int) := by rw [hq.2.1 2 (by decide), n0.1]; exact hGG
  by_cases c : GG = 0
  · rw [if_pos (by omega)]
    refine ⟨-1, ρ, ?_, fun _ _ _ _ => rfl, fun _ _ => rfl, Or.inl ⟨rfl, rfl, fun _ _ _ => rfl, fun P B hV => ?_⟩⟩
    · rw [show (4000 : Nat) = 3999 + 1 from rfl, f_X11_plan_112_e, if_pos rfl, if_pos rfl, if_pos (nr_ok hnr)]
    · have := hV.2.1 0 (by omega)
      omega
  · rw [if_neg (by omega)]
    have hpw : n ^ n ≤ 3125 := Nat.le_trans (Nat.pow_le_pow_left hn5 n) (Nat.le_trans (Nat.pow_le_pow_right (by decide) hn5) (by decide))
    have hpos : 0 < n ^ n := Nat.pow_pos (by omega)
    obtain ⟨v', η', m', a1, a2, a3⟩ := r_P h hq hGG (by omega) hnow (n ^ n) 4000 (-1) (fun _ => 0) ρ (by rw [code_0]; omega) (by omega) (by omega) (fun _ _ _ => rfl) (fun k hk => ⟨h399 k, by omega⟩) (Or.inl ⟨rfl, fun _ _ _ => rfl, fun P B hp => by
      rw [code_0] at hp
      rcases hp with hp | ⟨-, hp⟩ <;> omega⟩)
    have hnr' : ∀ j, η' 19 j < 300 ∧ η' 20 j < 300 ∧ η' 21 j < 300 := fun j => by
      rw [a2 19 (by omega) (by omega), a2 20 (by omega) (by omega), a2 21 (by omega) (by omega)]
      exact hnr j
    have pre : ∀ P B, Vd ν w n μ GG (μ 6 9) P B → PreC n GG (n ^ n) 0 P B := fun P B hV => Or.inl (codeN_lt n hV.1)
    rcases a3 with ⟨z1, z2, z3⟩ | ⟨Pb, Bb, z1, z2, z3, z4, z5⟩
    · refine ⟨-1, η', ?_, fun a x1 x2 _ => a2 a x1 x2, fun j _ => by rw [a2 300 (by omega) (by omega)], Or.inl ⟨rfl, by rw [a2 300 (by omega) (by omega)], z2, fun P B hV => z3 P B (pre P B hV) hV⟩⟩
      rw [a1, f_X11_plan_112_e, if_pos rfl, if_pos z1, if_pos (nr_ok hnr'), z1]
    · have hv : 0 ≤ v' := by rw [z3]; exact ldy_ge _ _ _ 0
      have e32 : η' 300 32 = (n : Int) := by rw [a2 300 (by omega) (by omega)]; exact hq.2.2.1
      refine ⟨v', up η' 300 33 (n : Int), ?_, fun a x1 x2 x3 => by rw [up_ne x3]; exact a2 a x1 x2, fun j hj => by rw [up_at, upf_ne hj, a2 300 (by omega) (by omega)], Or.inr ⟨by rw [up_at, upf_same], Pb, Bb, z2, z3, tbP_fr z4 (up_ne (by decide)) (up_ne (by decide)) (up_ne (by decide)) (up_ne (by decide)), fun P B hV => z5 P B (pre P B hV) hV⟩⟩
      rw [a1, f_X11_plan_112_e, if_pos rfl, if_neg (by omega), lm_e, e32, if_pos (nr_ok (fun j => by rw [up_ne (by decide), up_ne (by decide), up_ne (by decide)]; exact hnr' j))]
/-- what the class ends with -/
def clsEnd (ν : Mem) (w : Nat → Nat) (n : Nat) (μ : Mem) (r : Int) (κ : Mem) : Prop :=
  ((r = -1 ∧ κ 7 17 = μ 7 17 ∧ (∀ a, 45 ≤ a → a < 50 → κ a = μ a) ∧ ∀ l, l.length = n → ¬ sched n (rdyZ ν w n μ) (crsM ν w) 3000 l (fun _ => μ 6 9) (fun _ => -1)) ∨ (κ 7 17 = (n : Int) ∧ 0 ≤ r ∧ r ≤ 3000 ∧ ∃ O B κd, (∀ k, k < n → O k < n) ∧ sched n (rdyZ ν w n μ) (crsM ν w) r (plz O B 0 n) (fun _ => μ 6 9) (fun _ => -1) ∧ tellC n (rdyZ ν w n μ) (crsM ν w) κd (plz O B 0 n) (fun _ => μ 6 9) (fun _ => -1) ∧ (∀ k, k < n → κ (45 + k) 0 = (w (O k) : Int) ∧ κ (45 + k) 1 = κd 27 (O k) ∧ κ (45 + k) 2 = κd 28 (O k) ∧ κ (45 + k) 3 = κd 29 (O k)) ∧ (∀ B' k, sched n (rdyZ ν w n μ) (crsM ν w) r (plz O B' 0 n) (fun _ => μ 6 9) (fun _ => -1) → k < n → (∀ j, j < k → B' j = B j) → B k ≤ B' k) ∧ (∀ O'' B'' k, sched n (rdyZ ν w n μ) (crsM ν w) r (plz O'' B'' 0 n) (fun _ => μ 6 9) (fun _ => -1) → (∀ j, j < k → O'' j = O j) → k < n → O k ≤ O'' k) ∧ (∀ D l, l.length = n → sched n (rdyZ ν w n μ) (crsM ν w) D l (fun _ => μ 6 9) (fun _ => -1) → r ≤ D)))
theorem p_join (h : PR ν w n μ) {GG : Nat} (hGG : μ 6 5 = (GG : Int)) {r v : Int} {κ η ρ : Mem} (hc : clsEnd ν w n μ r κ) (hr : refEnd ν w n μ GG ρ v η) : v = r ∧ ((κ 7 17 = μ 7 17 ∧ (∀ a, 45 ≤ a → a < 50 → κ a = μ a) ∧ η 300 33 = ρ 300 33 ∧ (∀ a, 325 ≤ a → a ≤ 328 → η a = ρ a)) ∨ (κ 7 17 = (n : Int) ∧ η 300 33 = (n : Int) ∧ ∀ k, k < n → κ (45 + k) 0 = η 325 k ∧ κ (45 + k) 1 = η 326 k ∧ κ (45 + k) 2 = η 327 k ∧ κ (45 + k) 3 = η 328 k)) := by
  rcases hc with ⟨c1, c2, c3, c4⟩ | ⟨c1, c2, c3, O, B, κd, c4, c5, c6, c7, c8, c9, c10⟩
  · rcases hr with ⟨r1, r2, r3, r4⟩ | ⟨r1, Pb, Bb, r2, -⟩
    · exact ⟨by rw [r1, c1], Or.inl ⟨c2, c3, r2, r3⟩⟩
    · exact absurd r2.2.2 (c4 _ (plz_len n 0))
  · have hV := vd_of h hGG c3 c5
    rcases hr with ⟨-, -, -, r4⟩ | ⟨r1, Pb, Bb, r2, r3, r4, r5⟩
    · exact absurd hV (r4 O B)
    · have b1 : valP ν w n μ (μ 6 9) O B ≤ r := ((ldy_s c3 (plz O B 0 n) (fun _ => μ 6 9) (fun _ => -1) 0 c2).mp c5).2
      have v0 : 0 ≤ v := by rw [r3]; exact ldy_ge _ _ _ 0
      have v3 : v ≤ 3000 := by rw [r3]; exact ((ldy_s (Int.le_refl 3000) (plz Pb Bb 0 n) (fun _ => μ 6 9) (fun _ => -1) 0 (by decide)).mp r2.2.2).2
      have s1 : sched n (rdyZ ν w n μ) (crsM ν w) v (plz Pb Bb 0 n) (fun _ => μ 6 9) (fun _ => -1) := (ldy_s v3 (plz Pb Bb 0 n) (fun _ => μ 6 9) (fun _ => -1) 0 v0).mpr ⟨r2.2.2, by
        have : valP ν w n μ (μ 6 9) Pb Bb ≤ v := by omega
        exact this⟩
      have b2 := c10 v _ (plz_len n 0) s1
      have ev : v = r ∧ LEc n GG Pb Bb O B := by
        rcases r5 O B hV with z | ⟨z1, z2⟩
        · omega
        · exact ⟨by omega, z2⟩
      obtain ⟨ev, hle⟩ := ev
      rw [ev] at s1
      have noO : ¬ codeN Pb n n < codeN O n n := by
        intro z
        obtain ⟨m, m1, m2, m3⟩ := (codeN_cmp n r2.1 c4).2 z
        have := c9 Pb Bb m s1 m2 m1
        omega
      have eO : codeN Pb n n = codeN O n n ∧ codeN Bb GG n ≤ codeN B GG n := by
        rcases hle with z | z
        · exact absurd z noO
        · exact z
      have eP := (codeN_cmp n r2.1 c4).1 eO.1
      have noB : ¬ codeN Bb GG n < codeN B GG n := by
        intro z
        obtain ⟨m, m1, m2, m3⟩ := (codeN_cmp n r2.2.1 hV.2.1).2 z
        have s2 : sched n (rdyZ ν w n μ) (crsM ν w) r (plz O Bb 0 n) (fun _ => μ 6 9) (fun _ => -1) := by
          rw [plz_cong (O := O) (B := Bb) (O' := Pb) (B' := Bb) n 0 (fun k _ hk => ⟨(eP k (by omega)).symm, rfl⟩)]
          exact s1
        have := c8 Bb m s2 m1 m2
        omega
      have eB := (codeN_cmp n r2.2.1 hV.2.1).1 (show codeN Bb GG n = codeN B GG n by omega)
      refine ⟨ev, Or.inr ⟨c1, r1, fun k hk => ?_⟩⟩
      obtain ⟨t1, t2⟩ := r4
      rw [plz_cong (O := Pb) (B := Bb) (O' := O) (B' := B) n 0 (fun k _ hk => ⟨eP k (by omega), eB k (by omega)⟩)] at t2
      obtain ⟨y1, y2, y3⟩ := tell_eq n 0 _ _ c6 t2 k (Nat.zero_le _) (by omega)
      obtain ⟨x1, x2, x3, x4⟩ := c7 k hk
      obtain ⟨q1, q2⟩ := t1 k hk
      rw [x1, x2, x3, x4, q1, q2, y1, y2, y3, eP k hk, eB k hk]
      exact ⟨rfl, rfl, rfl, rfl⟩
end PT
