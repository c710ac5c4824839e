/-! THE PLAN, the class: from the prepared works on -/
def planT (μ9 : Mem) : Option (Int × Mem) := lm (up μ9 7 14 3001) fun μ13 => bd (f_X1_findFloor μ13 ) fun r16 μ17 => if r16 = 0 then (some ((-1), μ17)) else (bd (f_X1_seekLeast 8 μ17 0 0 (-1)) fun r22 μ23 => if 3000 < (μ23 7 14) then (some ((-1), μ23)) else (bd (f_X1_seekOrder 8 μ23 0 0) fun r28 μ29 => if r28 = 0 then (some ((-1), μ29)) else (bd (f_X1_keepPlan μ29 ) fun r34 μ35 => some (μ35 7 14, μ35))))
def tF (μ κ : Mem) : Prop := (∀ a, a ≠ 7 → ¬ (26 ≤ a ∧ a ≤ 30) → ¬ (45 ≤ a ∧ a < 50) → κ a = μ a) ∧ (∀ j, j ≠ 14 → j ≠ 15 → j ≠ 17 → κ 7 j = μ 7 j)
section PT
variable {ν μ : Mem} {w : Nat → Nat} {n : Nat}
theorem rdyZ_lt {i g : Nat} {x : Int} (hi : i < n) : rdyZ ν w n μ i g x = rdyM ν w μ i g x := by
  unfold rdyZ
  rw [if_pos hi]
theorem rdyZ_dl (h : PR ν w n μ) : ∀ i g a, rdyZ ν w n μ i g a ≠ -1 → a ≤ rdyZ ν w n μ i g a := by
  intro i g a hne
  by_cases hi : i < n
  · rw [rdyZ_lt hi] at hne ⊢
    exact ((rdy_b h i g a hi).2 hne).2
  · exfalso
    apply hne
    unfold rdyZ
    rw [if_neg hi]
theorem rdyZ_m (h : PR ν w n μ) {now : Int} (h0 : 0 ≤ now) : ∀ i g a b, i < n → g < 6 → now ≤ a → a ≤ b → rdyZ ν w n μ i g b ≠ -1 → rdyZ ν w n μ i g a ≠ -1 ∧ rdyZ ν w n μ i g a ≤ rdyZ ν w n μ i g b := by
  intro i g a b hi hg h1 h2 h3
  rw [rdyZ_lt hi] at h3 ⊢
  rw [rdyZ_lt hi]
  exact rdy_m h i g a b hi (by omega) h2 h3
theorem fS2_rf : fS2 μ μ := ⟨fun _ _ _ _ _ _ _ => rfl, fun _ _ _ => rfl⟩
theorem sched_now (h : PR ν w n μ) {now D : Int} (h0 : 0 ≤ now) {l : List (Nat × Nat)} (hl : l.length = n) (hs : sched n (rdyZ ν w n μ) (crsM ν w) D l (fun _ => now) (fun _ => -1)) : 0 ≤ D ∧ ∀ i, i < n → ∃ g, g < 6 ∧ rdyM ν w μ i g now ≠ -1 ∧ rdyM ν w μ i g now ≤ D := by
  have hrz := (sr_of h (fS2_rf (μ := μ))).2.1
  have hfl := sched_floor (now := now) (rdyZ_m h h0) (fun i g a => (hrz i g a).1) (rdyZ_dl h) l (fun _ => now) (fun _ => -1) (fun _ => by decide) (fun _ _ => Int.le_refl _) hs
  have all : ∀ i, i < n → ∃ g, g < 6 ∧ rdyM ν w μ i g now ≠ -1 ∧ rdyM ν w μ i g now ≤ D := by
    intro i hi
    obtain ⟨g, hg⟩ := sched_all hrz (fun _ _ => by decide) hl hs i hi
    obtain ⟨g', g1, g2, g3⟩ := hfl (i, g) hg
    have e : rdyZ ν w n μ (i, g).1 g' now = rdyM ν w μ i g' now := rdyZ_lt hi
    rw [e] at g2 g3
    exact ⟨g', g1, g2, g3⟩
  refine ⟨?_, all⟩
  have hn1 := h.2.2.2.2.1.2.1
  obtain ⟨g, g1, g2, g3⟩ := all 0 (by omega)
  have := (rdy_b h 0 g now (by omega)).1
  omega
theorem c_ptail (h : PR ν w n μ) (h30 : ∀ g, g < 6 → μ 30 g = μ 6 9) (hnow : 0 ≤ μ 6 9 ∧ μ 6 9 ≤ 3001) (h22 : ∀ j, j < n → μ 22 j = (w j : Int)) : ∃ r κ, planT μ = some (r, κ) ∧ tF μ κ ∧ ((r = -1 ∧ κ 7 17 = μ 7 17 ∧ (∀ a, 45 ≤ a → a < 50 → κ a = μ a) ∧ ∀ l, l.length = n → ¬ sched n (rdyZ ν w n μ) (crsM ν w) 3000 l (fun _ => μ 6 9) (fun _ => -1)) ∨ (κ 7 17 = (n : Int) ∧ 0 ≤ r ∧ r ≤ 3000 ∧ ∃ O B κd, (∀ k, k < n → O k < n) ∧ sched n (rdyZ ν w n μ) (crsM ν w) r (plz O B 0 n) (fun _ => μ 6 9) (fun _ => -1) ∧ tellC n (rdyZ ν w n μ) (crsM ν w) κd (plz O B 0 n) (fun _ => μ 6 9) (fun _ => -1) ∧ (∀ k, k < n → κ (45 + k) 0 = (w (O k) : Int) ∧ κ (45 + k) 1 = κd 27 (O k) ∧ κ (45 + k) 2 = κd 28 (O k) ∧ κ (45 + k) 3 = κd 29 (O k)) ∧ (∀ B' k, sched n (rdyZ ν w n μ) (crsM ν w) r (plz O B' 0 n) (fun _ => μ 6 9) (fun _ => -1) → k < n → (∀ j, j < k → B' j = B j) → B k ≤ B' k) ∧ (∀ O'' B'' k, sched n (rdyZ ν w n μ) (crsM ν w) r (plz O'' B'' 0 n) (fun _ => μ 6 9) (fun _ => -1) → (∀ j, j < k → O'' j = O j) → k < n → O k ≤ O'' k) ∧ (∀ D l, l.length = n → sched n (rdyZ ν w n μ) (crsM ν w) D l (fun _ => μ 6 9) (fun _ => -1) → r ≤ D))) := by
  have hpi := h.2.2.2.2.2.2
  obtain ⟨h75, hn1, hn5⟩ := h.2.2.2.2.1
  have h29 : ∀ j, j < n → μ 29 j = -1 := fun j hj => (hpi j hj).2.1
  have m0 : ∀ i, ¬ mskP 0 i := fun i => by unfold mskP; simp
  have conv : ∀ (κ : Mem), κ 30 = μ 30 → κ 29 = μ 29 → ∀ D l, sched n (rdyZ ν w n μ) (crsM ν w) D l (κ 30) (κ 29) ↔ sched n (rdyZ ν w n μ) (crsM ν w) D l (fun _ => μ 6 9) (fun _ => -1) := by
    intro κ e30 e29 D l
    rw [e30, e29]
    constructor
    · intro hs
      exact sched_cong (S := fun g => g < 6) l _ _ _ _ (fun p hp => (sched_6 l _ _ hs p hp).2) (fun g hg => h30 g hg) (fun j hj => h29 j hj) hs
    · intro hs
      exact sched_cong (S := fun g => g < 6) l _ _ _ _ (fun p hp => (sched_6 l _ _ hs p hp).2) (fun g hg => (h30 g hg).symm) (fun j hj => (h29 j hj).symm) hs
  obtain ⟨κa, hκa⟩ : ∃ z, z = up (up μ 7 14 3001) 7 15 0 := ⟨_, rfl⟩
  have na : ∀ a, a ≠ 7 → κa a = μ a := fun a ha => by rw [hκa, up_ne ha, up_ne ha]
  have n7 : ∀ j, j ≠ 14 → j ≠ 15 → κa 7 j = μ 7 j := fun j j1 j2 => by rw [hκa, up_at, upf_ne j2, up_at, upf_ne j1]
  have a715 : κa 7 15 = 0 := by rw [hκa, up_at, upf_same]
  have a714 : κa 7 14 = 3001 := by rw [hκa, up_at, upf_ne (by decide), up_at, upf_same]
  have fa : fS2 μ κa := ⟨fun a _ _ _ _ _ a7 => na a a7, n7⟩
  have bnd : ∀ κ : Mem, κ 30 = μ 30 → κ 29 = μ 29 → bndS n κ := by
    intro κ e30 e29
    unfold bndS
    rw [e30, e29]
    refine ⟨fun g hg => by rw [h30 g hg]; exact hnow, fun j hj => by rw [h29 j hj]; decide, fun j hj => by rw [h29 j hj]; decide⟩
  obtain ⟨fl, a1, a2, a3, a4⟩ := e_floor2 h n 64 0 κa (by omega) (by omega) fa (bnd κa (na 30 (by decide)) (na 29 (by decide))) (by omega)
  rw [show ((0 : Nat) : Int) = 0 from rfl] at a1
  have flo : ∀ D l, l.length = n → sched n (rdyZ ν w n μ) (crsM ν w) D l (fun _ => μ 6 9) (fun _ => -1) → fl ≤ D := by
    intro D l hl hs
    obtain ⟨s1, s2⟩ := sched_now h hnow.1 hl hs
    refine a3 D (by omega) (fun i' _ hi' => ?_)
    obtain ⟨g, g1, g2, g3⟩ := s2 i' hi'
    refine ⟨g, g1, ?_⟩
    rw [na 30 (by decide), h30 g g1]
    exact ⟨g2, g3⟩
  have st : planT μ = bd (some ((if 3000 < fl then (0 : Int) else 1), up κa 7 15 fl)) fun r16 μ17 => if r16 = 0 then (some ((-1), μ17)) else (bd (f_X1_seekLeast 8 μ17 0 0 (-1)) fun r22 μ23 => if 3000 < (μ23 7 14) then (some ((-1), μ23)) else (bd (f_X1_seekOrder 8 μ23 0 0) fun r28 μ29 => if r28 = 0 then (some ((-1), μ29)) else (bd (f_X1_keepPlan μ29 ) fun r34 μ35 => some (μ35 7 14, μ35)))) := by
    unfold planT f_X1_findFloor
    rw [lm_e, lm_e, ← hκa, a1]
  rw [bd_some] at st
  obtain ⟨κb, hκb⟩ : ∃ z, z = up κa 7 15 fl := ⟨_, rfl⟩
  rw [← hκb] at st
  have nb : ∀ a, a ≠ 7 → κb a = μ a := fun a ha => by rw [hκb, up_ne ha]; exact na a ha
  have nb7 : ∀ j, j ≠ 14 → j ≠ 15 → κb 7 j = μ 7 j := fun j j1 j2 => by rw [hκb, up_at, upf_ne j2]; exact n7 j j1 j2
  have b715 : κb 7 15 = fl := by rw [hκb, up_at, upf_same]
  have b714 : κb 7 14 = 3001 := by rw [hκb, up_at, upf_ne (by decide)]; exact a714
  have fb : fS2 μ κb := ⟨fun a _ _ _ _ _ a7 => nb a a7, nb7⟩
  -- a frame of the search
  have ofS : ∀ κ, fS κb κ → tF μ κ ∧ κ 7 17 = μ 7 17 ∧ (∀ a, 45 ≤ a → a < 50 → κ a = μ a) := by
    intro κ hk
    refine ⟨⟨fun a x1 x2 x3 => by rw [hk.1 a (by omega) (by omega) (by omega) (by omega) (by omega) x1]; exact nb a x1, fun j j1 j2 j3 => by rw [hk.2 j j1]; exact nb7 j j1 j2⟩, by rw [hk.2 17 (by decide)]; exact nb7 17 (by decide) (by decide), fun a x1 x2 => by rw [hk.1 a (by omega) (by omega) (by omega) (by omega) (by omega) (by omega)]; exact nb a (by omega)⟩
  by_cases c1 : 3000 < fl
  · rw [if_pos c1, if_pos rfl] at st
    obtain ⟨t1, t2, t3⟩ := ofS κb (fS_rf κb)
    refine ⟨-1, κb, st, t1, Or.inl ⟨rfl, t2, t3, fun l hl hs => ?_⟩⟩
    have := flo 3000 l hl hs
    omega
  · rw [if_neg c1, if_neg (by decide)] at st
    have hS := sr_of h fb
    obtain ⟨κc, d1, d2, d3⟩ := e_seekLeast hS n 8 0 0 (-1) κb (by omega) (by omega) (fS_rf κb) (bnd κb (nb 30 (by decide)) (nb 29 (by decide))) (by omega) (fun j hj => by
      rw [nb 29 (by decide), h29 j hj]
      exact ⟨fun z => absurd z (m0 j), fun z => absurd rfl z⟩) (by decide) (by omega) (by omega) (fun z => by omega)
    rw [show ((0 : Nat) : Int) = 0 from rfl] at d1
    rw [d1, bd_some] at st
    obtain ⟨l1, l2, l3, -, -, l6, l7⟩ := d2
    have least : ∀ D l, l.length = n → sched n (rdyZ ν w n μ) (crsM ν w) D l (fun _ => μ 6 9) (fun _ => -1) → κc 7 14 ≤ D := by
      intro D l hl hs
      have hD := (sched_now h hnow.1 hl hs).1
      have hf := flo D l hl hs
      obtain ⟨l', x1, x2, x3⟩ := canon_ex l _ _ hs
      have := d3 D l' (by omega) ((conv κb (nb 30 (by decide)) (nb 29 (by decide)) D l').mpr x2) (by
        cases l' with
        | nil => trivial
        | cons p t => exact ⟨fun z => by omega, x3⟩) (by omega)
      rw [b715] at this
      omega
    by_cases c2 : 3000 < κc 7 14
    · rw [if_pos c2] at st
      obtain ⟨t1, t2, t3⟩ := ofS κc l1
      refine ⟨-1, κc, st, t1, Or.inl ⟨rfl, t2, t3, fun l hl hs => ?_⟩⟩
      have := least 3000 l hl hs
      omega
    · rw [if_neg c2] at st
      have e29 : κc 29 = μ 29 := by rw [l2]; exact nb 29 (by decide)
      have e30 : κc 30 = μ 30 := by rw [l3]; exact nb 30 (by decide)
      obtain ⟨r, κd, f1, f2, f3, f4⟩ := e_seekOrder hS n 8 0 0 (fun _ => 0) κc (by omega) (by omega) l1 (bnd κc e30 e29) (fun j hj => by rw [e29]; exact h29 j hj) (fun k hk => by omega) (fun j k _ hk => by omega) (by omega) (fun j hj => ⟨fun z => absurd z (m0 j), fun ⟨k, k1, _⟩ => by omega⟩) (by omega)
      rw [show ((0 : Nat) : Int) = 0 from rfl] at f1
      rw [f1, bd_some] at st
      have cv := conv κc e30 e29
      rcases f4 with ⟨-, -, -, -, g5⟩ | ⟨g1, O, B, -, g3, g4, g6, g7, g8⟩
      · exfalso
        rcases l7 with l7 | ⟨-, l, y1, y2⟩
        · omega
        · obtain ⟨P, B, e⟩ := plz_of l 0
          rw [y1] at e
          refine g5 P B (fun k hk => by omega) ?_
          rw [← e, l2, l3]
          exact y2
      · subst g1
        rw [if_neg (by decide)] at st
        obtain ⟨t1, t2, t3⟩ := ofS κd f2
        have d75 : κd 7 5 = (n : Int) := by rw [t1.2 5 (by decide) (by decide) (by decide)]; exact h75
        obtain ⟨κe, k1, k2, k3⟩ := e_keep (κ0 := up κd 7 17 (n : Int)) (O := O) hn5 (by rw [up_at, upf_ne (by decide)]; exact d75) (fun k hk => by rw [up_ne (by decide)]; exact g3 k hk) n 64 0 (up κd 7 17 (n : Int)) (by omega) (by omega) (fun _ _ => rfl) (fun j hj => by omega)
        rw [show ((0 : Nat) : Int) = 0 from rfl] at k1
        have kp : f_X1_keepPlan κd = some (0, κe) := by
          unfold f_X1_keepPlan
          rw [lm_e, d75, k1]
        rw [kp, bd_some] at st
        have e714 : κe 7 14 = κc 7 14 := by rw [k2 7 (by omega), up_at, upf_ne (by decide)]; exact f3
        rw [e714] at st
        rw [cv] at g4
        have hplen : (plz O B 0 n).length = n := plz_len n 0
        have hL0 := (sched_now h hnow.1 hplen g4).1
        refine ⟨κc 7 14, κe, st, ⟨fun a x1 x2 x3 => by rw [k2 a x3, up_ne x1]; exact t1.1 a x1 x2 x3, fun j j1 j2 j3 => by rw [k2 7 (by omega), up_at, upf_ne j3]; exact t1.2 j j1 j2 j3⟩, Or.inr ⟨by rw [k2 7 (by omega), up_at, upf_same], hL0, by omega, O, B, κd, fun k hk => (g3 k hk).2, g4, ?_, ?_, ?_, ?_, least⟩⟩
        · rw [e30, e29] at g6
          exact tellC_cong (S := fun g => g < 6) _ _ _ _ _ (fun p hp => (sched_6 _ _ _ g4 p hp).2) (fun g hg => h30 g hg) (fun j hj => h29 j hj) g6
        · intro k hk
          obtain ⟨z1, z2, z3, z4⟩ := k3 k hk
          rw [up_ne (by decide)] at z1 z2 z3 z4
          refine ⟨?_, z2, z3, z4⟩
          rw [z1, t1.1 22 (by decide) (by decide) (by decide)]
          exact h22 _ (g3 k hk).2
        · intro B' k hs
          exact g7 B' k ((cv _ _).mpr hs)
        · intro O'' B'' k hs hj hk
          exact g8 O'' B'' k ((cv _ _).mpr hs) hj (Nat.zero_le _) hk
end PT
