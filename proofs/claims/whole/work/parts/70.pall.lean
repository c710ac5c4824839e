/-! THE PLAN, the reference: the best of all -/
section PR3
variable {ρ ν μ : Mem} {w : Nat → Nat} {n : Nat}
def PreC (n GG cp cb : Nat) (P B : Nat → Nat) : Prop := codeN P n n < cp ∨ (codeN P n n = cp ∧ codeN B GG n < cb)
def LEc (n GG : Nat) (Pb Bb P B : Nat → Nat) : Prop := codeN Pb n n < codeN P n n ∨ (codeN Pb n n = codeN P n n ∧ codeN Bb GG n ≤ codeN B GG n)
def Bst (ρ ν : Mem) (w : Nat → Nat) (n : Nat) (μ : Mem) (GG : Nat) (now : Int) (cp cb : Nat) (v : Int) (η : Mem) : Prop :=
  (v = -1 ∧ (∀ a, 325 ≤ a → a ≤ 328 → η a = ρ a) ∧ ∀ P B, PreC n GG cp cb P B → ¬ Vd ν w n μ GG now P B) ∨
  (∃ Pb Bb, PreC n GG cp cb Pb Bb ∧ Vd ν w n μ GG now Pb Bb ∧ v = valP ν w n μ now Pb Bb ∧ tbP ν w n μ now η Pb Bb ∧ ∀ P B, PreC n GG cp cb P B → Vd ν w n μ GG now P B → v < valP ν w n μ now P B ∨ (v = valP ν w n μ now P B ∧ LEc n GG Pb Bb P B))
theorem tbP_fr {now : Int} {η η' : Mem} {P B : Nat → Nat} (h : tbP ν w n μ now η P B) (h1 : η' 325 = η 325) (h2 : η' 326 = η 326) (h3 : η' 327 = η 327) (h4 : η' 328 = η 328) : tbP ν w n μ now η' P B := by
  unfold tbP
  rw [h1, h2, h3, h4]
  exact h
theorem Bst_fr {GG : Nat} {now : Int} {cp cb : Nat} {v : Int} {η η' : Mem} (h : Bst ρ ν w n μ GG now cp cb v η) (h1 : η' 325 = η 325) (h2 : η' 326 = η 326) (h3 : η' 327 = η 327) (h4 : η' 328 = η 328) : Bst ρ ν w n μ GG now cp cb v η' := by
  rcases h with h | ⟨Pb, Bb, x1, x2, x3, x4, x5⟩
  · refine Or.inl ⟨h.1, fun a y1 y2 => ?_, h.2.2⟩
    rw [← h.2.1 a y1 y2]
    have : a = 325 ∨ a = 326 ∨ a = 327 ∨ a = 328 := by omega
    rcases this with e | e | e | e
    · rw [e]; exact h1
    · rw [e]; exact h2
    · rw [e]; exact h3
    · rw [e]; exact h4
  · exact Or.inr ⟨Pb, Bb, x1, x2, x3, tbP_fr x4 h1 h2 h3 h4, x5⟩
theorem val_same {GG : Nat} {now : Int} {P B P' B' : Nat → Nat} (hP : ∀ k, k < n → P k = P' k) (hB : ∀ k, k < n → B k = B' k) : (Vd ν w n μ GG now P B → Vd ν w n μ GG now P' B') ∧ valP ν w n μ now P B = valP ν w n μ now P' B' := by
  have e : plz P B 0 n = plz P' B' 0 n := plz_cong n 0 (fun k _ hk => ⟨hP k (by omega), hB k (by omega)⟩)
  refine ⟨fun h => ⟨fun k hk => by rw [← hP k hk]; exact h.1 k hk, fun k hk => by rw [← hB k hk]; exact h.2.1 k hk, by rw [← e]; exact h.2.2⟩, ?_⟩
  unfold valP
  rw [e]
theorem Bst_step {GG : Nat} {now : Int} {v v' : Int} {η η' : Mem} {P B : Nat → Nat} (hPn : ∀ k, k < n → P k < n) (hB : ∀ k, k < n → B k < GG) (h : Bst ρ ν w n μ GG now (codeN P n n) (codeN B GG n) v η) (hs : (Vd ν w n μ GG now P B ∧ (v = -1 ∨ valP ν w n μ now P B < v) ∧ v' = valP ν w n μ now P B ∧ tbP ν w n μ now η' P B) ∨ (¬ (Vd ν w n μ GG now P B ∧ (v = -1 ∨ valP ν w n μ now P B < v)) ∧ v' = v ∧ η' 325 = η 325 ∧ η' 326 = η 326 ∧ η' 327 = η 327 ∧ η' 328 = η 328)) : Bst ρ ν w n μ GG now (codeN P n n) (codeN B GG n + 1) v' η' := by
  have cut : ∀ P' B', PreC n GG (codeN P n n) (codeN B GG n + 1) P' B' → Vd ν w n μ GG now P' B' → PreC n GG (codeN P n n) (codeN B GG n) P' B' ∨ (codeN P' n n = codeN P n n ∧ codeN B' GG n = codeN B GG n ∧ Vd ν w n μ GG now P B ∧ valP ν w n μ now P' B' = valP ν w n μ now P B) := by
    intro P' B' h1 h2
    rcases h1 with h1 | ⟨h1, h3⟩
    · exact Or.inl (Or.inl h1)
    · by_cases e : codeN B' GG n = codeN B GG n
      · have q := val_same (ν := ν) (μ := μ) (w := w) (GG := GG) (now := now) ((codeN_cmp n h2.1 hPn).1 h1) ((codeN_cmp n h2.2.1 hB).1 e)
        exact Or.inr ⟨h1, e, q.1 h2, q.2⟩
      · exact Or.inl (Or.inr ⟨h1, by omega⟩)
  have up1 : ∀ P' B', PreC n GG (codeN P n n) (codeN B GG n) P' B' → PreC n GG (codeN P n n) (codeN B GG n + 1) P' B' := by
    rintro P' B' (h1 | ⟨h1, h2⟩)
    · exact Or.inl h1
    · exact Or.inr ⟨h1, by omega⟩
  rcases hs with ⟨s1, s2, s3, s4⟩ | ⟨s1, s2, e5, e6, e7, e8⟩
  · refine Or.inr ⟨P, B, Or.inr ⟨rfl, by omega⟩, s1, s3, s4, fun P' B' p1 p2 => ?_⟩
    rcases cut P' B' p1 p2 with q | ⟨q1, q2, q3, q4⟩
    · rcases h with ⟨h1, hk, h2⟩ | ⟨Pb, Bb, h1, h2, h3, h4, h5⟩
      · exact absurd p2 (h2 P' B' q)
      · have := h5 P' B' q p2
        have hv : 0 ≤ v := by rw [h3]; exact ldy_ge _ _ _ 0
        left
        rcases this with z | z <;> omega
    · exact Or.inr ⟨by rw [s3, q4], Or.inr ⟨q1.symm, by omega⟩⟩
  · rw [s2]
    rcases h with ⟨h1, hk, h2⟩ | ⟨Pb, Bb, h1, h2, h3, h4, h5⟩
    · refine Or.inl ⟨h1, fun a y1 y2 => ?_, fun P' B' p1 p2 => ?_⟩
      · rw [← hk a y1 y2]
        have : a = 325 ∨ a = 326 ∨ a = 327 ∨ a = 328 := by omega
        rcases this with e | e | e | e
        · rw [e]; exact e5
        · rw [e]; exact e6
        · rw [e]; exact e7
        · rw [e]; exact e8
      rcases cut P' B' p1 p2 with q | ⟨q1, q2, q3, q4⟩
      · exact h2 P' B' q p2
      · exact s1 ⟨q3, Or.inl h1⟩
    · refine Or.inr ⟨Pb, Bb, up1 _ _ h1, h2, h3, tbP_fr h4 e5 e6 e7 e8, fun P' B' p1 p2 => ?_⟩
      rcases cut P' B' p1 p2 with q | ⟨q1, q2, q3, q4⟩
      · exact h5 P' B' q p2
      · rw [q4]
        have hle : v ≤ valP ν w n μ now P B := by
          by_cases z : v ≤ valP ν w n μ now P B
          · exact z
          · exact absurd ⟨q3, Or.inr (by omega)⟩ s1
        by_cases z : v < valP ν w n μ now P B
        · exact Or.inl z
        · refine Or.inr ⟨by omega, ?_⟩
          rcases h1 with h1 | ⟨h1, h6⟩
          · exact Or.inl (by omega)
          · exact Or.inr ⟨by omega, by omega⟩
theorem Bst_next {GG : Nat} {now : Int} {v : Int} {η : Mem} {cp : Nat} (h : Bst ρ ν w n μ GG now cp (GG ^ n) v η) : Bst ρ ν w n μ GG now (cp + 1) 0 v η := by
  have a : ∀ P B, PreC n GG (cp + 1) 0 P B → Vd ν w n μ GG now P B → PreC n GG cp (GG ^ n) P B := by
    rintro P B (h1 | ⟨h1, h2⟩) hv
    · by_cases e : codeN P n n = cp
      · exact Or.inr ⟨e, codeN_lt n hv.2.1⟩
      · exact Or.inl (by omega)
    · omega
  rcases h with ⟨h1, hk, h2⟩ | ⟨Pb, Bb, h1, h2, h3, h4, h5⟩
  · exact Or.inl ⟨h1, hk, fun P B p1 p2 => h2 P B (a P B p1 p2) p2⟩
  · refine Or.inr ⟨Pb, Bb, ?_, h2, h3, h4, fun P B p1 p2 => h5 P B (a P B p1 p2) p2⟩
    rcases h1 with h1 | ⟨h1, -⟩
    · exact Or.inl (by omega)
    · exact Or.inl (by omega)
theorem Bst_skip {GG : Nat} {now : Int} {v : Int} {η : Mem} {P : Nat → Nat} (hPn : ∀ k, k < n → P k < n) (hno : ∀ B, ¬ Vd ν w n μ GG now P B) (h : Bst ρ ν w n μ GG now (codeN P n n) 0 v η) : Bst ρ ν w n μ GG now (codeN P n n + 1) 0 v η := by
  have a : ∀ P' B, PreC n GG (codeN P n n + 1) 0 P' B → Vd ν w n μ GG now P' B → PreC n GG (codeN P n n) 0 P' B := by
    rintro P' B (h1 | ⟨h1, h2⟩) hv
    · by_cases e : codeN P' n n = codeN P n n
      · exact absurd ((val_same (ν := ν) (μ := μ) (w := w) (GG := GG) (now := now) (B := B) (B' := B) ((codeN_cmp n hv.1 hPn).1 e) (fun _ _ => rfl)).1 hv) (hno B)
      · exact Or.inl (by omega)
    · omega
  rcases h with ⟨h1, hk, h2⟩ | ⟨Pb, Bb, h1, h2, h3, h4, h5⟩
  · exact Or.inl ⟨h1, hk, fun P' B p1 p2 => h2 P' B (a P' B p1 p2) p2⟩
  · refine Or.inr ⟨Pb, Bb, ?_, h2, h3, h4, fun P' B p1 p2 => h5 P' B (a P' B p1 p2) p2⟩
    rcases h1 with h1 | ⟨h1, h6⟩
    · exact Or.inl (by omega)
    · omega
theorem r_B (h : PR ν w n μ) {ρ : Mem} (hq : PQ ν w n μ ρ) {GG : Nat} (hGG : μ 6 5 = (GG : Int)) (hG1 : 1 ≤ GG) (hnow : μ 6 9 ≤ 3001) {P : Nat → Nat} (hPn : ∀ k, k < n → P k < n) (hinj : ∀ j k, j < k → k < n → P j ≠ P k) : ∀ (rem m : Nat) (v : Int) (B : Nat → Nat) (η : Mem), codeN B GG n + rem = GG ^ n → rem < m → 1 ≤ rem → rS ρ η → (∀ k, k < n → B k < GG) → (∀ i, i < n → η 321 i = (w (P i) : Int) ∧ η 322 i = (B i : Int)) → Bst ρ ν w n μ GG (μ 6 9) (codeN P n n) (codeN B GG n) v η → ∃ (v' : Int) (η' : Mem), f_X11_gangs__24 m v 1 η = some (v', η') ∧ rS ρ η' ∧ η' 399 = η 399 ∧ Bst ρ ν w n μ GG (μ 6 9) (codeN P n n + 1) 0 v' η' := by
  have hn5 := h.2.2.2.2.1.2.2
  have n0 := sN_n (sN_of h.1)
  intro rem
  induction rem with
  | zero => intro m v B η h1 h2 h3; omega
  | succ rem ih =>
    intro m v B η h1 h2 h3 h4 h5 h6 h7
    obtain ⟨m, rfl⟩ : ∃ z, m = z + 1 := ⟨m - 1, by omega⟩
    obtain ⟨v', η1, a1, a2, a3, a4, a5, a6⟩ := r_one h hq h4 hGG hnow hPn hinj h5 h6 m v
    have hst := Bst_step hPn h5 h7 a6
    have h32 : η1 300 32 = (n : Int) := by rw [a2 300 (by omega) (by omega)]; exact hq.2.2.1
    obtain ⟨r, η2, f', b1, b2, b3, b4, b5⟩ := r_goB (b := GG) ⟨hG1, by omega⟩ n 64 B η1 (by omega) hn5 (fun j hj => by rw [a4]; exact ⟨(h6 j hj).2, h5 j hj⟩)
    have go : f_X11_goesOnB η1 (GG : Int) = some (r, η2) := by
      unfold f_X11_goesOnB
      rw [h32, if_pos (by omega), b1]
    rw [a1, go, bd_some]
    have f2 : rS ρ η2 := fun a x1 x2 => by rw [b2 a (by omega)]; exact a2 a x1 x2
    have s2 := Bst_fr (η' := η2) hst (b2 325 (by decide)) (b2 326 (by decide)) (b2 327 (by decide)) (b2 328 (by decide))
    rcases b5 with ⟨r1, c1⟩ | ⟨r0, c1⟩
    · subst r1
      have hlt := codeN_lt (b := GG) n (fun j hj => (b4 j hj).2)
      rw [← c1] at s2
      obtain ⟨v'', η', q1, q2, q3, q4⟩ := ih m v' f' η2 (by omega) (by omega) (by omega) f2 (fun k hk => (b4 k hk).2) (fun i hi => by rw [b2 321 (by decide), a3]; exact ⟨(h6 i hi).1, (b4 i hi).1⟩) s2
      exact ⟨v'', η', q1, q2, by rw [q3, b2 399 (by decide), a5], q4⟩
    · subst r0
      obtain ⟨m, rfl⟩ : ∃ z, m = z + 1 := ⟨m - 1, by omega⟩
      rw [c1] at s2
      refine ⟨v', η2, ?_, f2, by rw [b2 399 (by decide), a5], Bst_next s2⟩
      rw [f_X11_gangs__24_e, if_pos rfl]
theorem r_zero4 {v : Int} : ∀ (e m k : Nat) (η : Mem), k + e = 5 → e < m → (∀ j, j < k → η 322 j = 0) → ∃ η', f_X11_gangs__4 m v (k : Int) η = f_X11_gangs__24 8000 v 1 η' ∧ (∀ a, a ≠ 322 → η' a = η a) ∧ (∀ j, j < 5 → η' 322 j = 0)
  | 0, m + 1, k, η, h1, h2, h3 => by
    refine ⟨η, ?_, fun _ _ => rfl, fun j hj => h3 j (by omega)⟩
    rw [f_X11_gangs__4_e, if_pos (by omega)]
  | e + 1, m + 1, k, η, h1, h2, h3 => by
    obtain ⟨η', q1, q2, q3⟩ := r_zero4 (v := v) e m (k + 1) (up η 322 k 0) (by omega) (by omega) (fun j hj => by
      by_cases ej : j = k
      · subst ej; rw [up_at, upf_same]
      · rw [up_at, upf_ne ej]; exact h3 j (by omega))
    refine ⟨η', ?_, fun a ha => by rw [q2 a ha, up_ne ha], q3⟩
    rw [f_X11_gangs__4_e, if_neg (by omega), if_pos (by omega), lm_e, if_pos (by omega), Int.toNat_natCast, show (k : Int) + 1 = ((k + 1 : Nat) : Int) by omega, q1]
theorem code_0 {b : Nat} : ∀ k : Nat, codeN (fun _ => 0) b k = 0
  | 0 => rfl
  | k + 1 => by
    show codeN (fun _ => 0) b k * b + 0 = 0
    rw [code_0 k]
    omega
theorem r_gangs (h : PR ν w n μ) {ρ η : Mem} (hq : PQ ν w n μ ρ) {GG : Nat} (hGG : μ 6 5 = (GG : Int)) (hG1 : 1 ≤ GG) (hnow : μ 6 9 ≤ 3001) {P : Nat → Nat} (hPn : ∀ k, k < n → P k < n) (hinj : ∀ j k, j < k → k < n → P j ≠ P k) {v : Int} (hf : rS ρ η) (hrow : ∀ i, i < n → η 321 i = (w (P i) : Int)) (hb : Bst ρ ν w n μ GG (μ 6 9) (codeN P n n) 0 v η) : ∃ (v' : Int) (η' : Mem), f_X11_gangs_ η v = some (v', η') ∧ rS ρ η' ∧ η' 399 = η 399 ∧ Bst ρ ν w n μ GG (μ 6 9) (codeN P n n + 1) 0 v' η' := by
  have hn5 := h.2.2.2.2.1.2.2
  have n0 := sN_n (sN_of h.1)
  obtain ⟨η1, a1, a2, a3⟩ := r_zero4 (v := v) 5 8000 0 η rfl (by decide) (fun j hj => by omega)
  rw [show ((0 : Nat) : Int) = 0 from rfl] at a1
  have hpw : GG ^ n ≤ 7776 := Nat.le_trans (Nat.pow_le_pow_left (show GG ≤ 6 by omega) n) (Nat.le_trans (Nat.pow_le_pow_right (by decide) hn5) (by decide))
  have hpos : 0 < GG ^ n := Nat.pow_pos (by omega)
  obtain ⟨v', η', q1, q2, q3, q4⟩ := r_B h hq hGG hG1 hnow hPn hinj (GG ^ n) 8000 v (fun _ => 0) η1 (by rw [code_0]; omega) (by omega) (by omega) (fun a x1 x2 => by rw [a2 a (by omega)]; exact hf a x1 x2) (fun k hk => by omega) (fun i hi => by rw [a2 321 (by decide)]; exact ⟨hrow i hi, a3 i (by omega)⟩) (by rw [code_0]; exact Bst_fr hb (a2 325 (by decide)) (a2 326 (by decide)) (a2 327 (by decide)) (a2 328 (by decide)))
  refine ⟨v', η', ?_, q2, by rw [q3, a2 399 (by decide)], q4⟩
  show f_X11_gangs__4 8000 v 0 η = _
  rw [a1, q1]
/-- an order out of places -/
theorem r_150 {k112 : Int → Int → Mem → Option (Int × Mem)} {k122 : Int → Int → Int → Mem → Option (Int × Mem)} {v : Int} {P : Nat → Nat} {η : Mem} {k : Nat} (hk5 : k < 5) (hr : ∀ j, j ≤ k → η 399 j = (P j : Int)) : ∀ (e m i : Nat) (v4 : Int), i + e = k → e < m → (v4 = 0 ∨ v4 = 1) → ∃ v4', f_X11_plan_150 k112 k122 m v v4 (k : Int) (i : Int) η = k122 v v4' ((k : Int) + 1) η ∧ ((v4' = 1 ∧ v4 = 1 ∧ ∀ j, i ≤ j → j < k → P j ≠ P k) ∨ (v4' = 0 ∧ (v4 = 0 ∨ ∃ j, i ≤ j ∧ j < k ∧ P j = P k)))
  | 0, m + 1, i, v4, h1, h2, h3 => by
    refine ⟨v4, ?_, ?_⟩
    · rw [f_X11_plan_150_e, if_pos (by omega), if_pos (by omega)]
    · rcases h3 with h3 | h3
      · exact Or.inr ⟨h3, Or.inl h3⟩
      · exact Or.inl ⟨h3, h3, fun j j1 j2 => by omega⟩
  | e + 1, m + 1, i, v4, h1, h2, h3 => by
    rw [f_X11_plan_150_e, if_neg (by omega)]
    by_cases c : v4 = 0
    · obtain ⟨v4', q1, q2⟩ := r_150 (k112 := k112) (k122 := k122) (v := v) hk5 hr e m (i + 1) 0 (by omega) (by omega) (Or.inl rfl)
      refine ⟨v4', ?_, ?_⟩
      · rw [if_pos c, if_pos (by omega), show (i : Int) + 1 = ((i + 1 : Nat) : Int) by omega, q1]
      · rcases q2 with ⟨x1, x2, -⟩ | ⟨x1, -⟩
        · exact absurd x2 (by decide)
        · exact Or.inr ⟨x1, Or.inl c⟩
    · rw [if_neg c, if_pos (by omega), if_pos (by omega), Int.toNat_natCast, Int.toNat_natCast, hr i (by omega), hr k (Nat.le_refl k)]
      by_cases c2 : P i = P k
      · obtain ⟨v4', q1, q2⟩ := r_150 (k112 := k112) (k122 := k122) (v := v) hk5 hr e m (i + 1) 0 (by omega) (by omega) (Or.inl rfl)
        refine ⟨v4', ?_, ?_⟩
        · rw [if_pos (by omega), if_pos (by omega), show (i : Int) + 1 = ((i + 1 : Nat) : Int) by omega, q1]
        · rcases q2 with ⟨x1, x2, -⟩ | ⟨x1, -⟩
          · exact absurd x2 (by decide)
          · exact Or.inr ⟨x1, Or.inr ⟨i, Nat.le_refl i, by omega, c2⟩⟩
      · obtain ⟨v4', q1, q2⟩ := r_150 (k112 := k112) (k122 := k122) (v := v) hk5 hr e m (i + 1) 1 (by omega) (by omega) (Or.inr rfl)
        refine ⟨v4', ?_, ?_⟩
        · rw [if_neg (by omega), if_pos (by omega), show (i : Int) + 1 = ((i + 1 : Nat) : Int) by omega, q1]
        · rcases q2 with ⟨x1, x2, x3⟩ | ⟨x1, x2⟩
          · refine Or.inl ⟨x1, by omega, fun j j1 j2 => ?_⟩
            by_cases ej : j = i
            · rw [ej]; exact c2
            · exact x3 j (by omega) j2
          · rcases x2 with x2 | ⟨j, j1, j2, j3⟩
            · exact absurd x2 (by decide)
            · exact Or.inr ⟨x1, Or.inr ⟨j, by omega, j2, j3⟩⟩
theorem r_122 {k112 : Int → Int → Mem → Option (Int × Mem)} {v : Int} {P : Nat → Nat} {ρ : Mem} (hn5 : n ≤ 5) (hPn : ∀ k, k < n → P k < n) (hw : ∀ i, i < n → ρ 320 i = (w i : Int)) (h32 : ρ 300 32 = (n : Int)) : ∀ (e m k : Nat) (v4 : Int) (η : Mem), k + e = n → e < m → rS ρ η → (∀ j, j < n → η 399 j = (P j : Int)) → (∀ j, j < k → η 321 j = (w (P j) : Int)) → ((v4 = 1 ∧ ∀ a b, a < b → b < k → P a ≠ P b) ∨ (v4 = 0 ∧ ∃ a b, a < b ∧ b < n ∧ P a = P b)) → ∃ (v4' : Int) (η' : Mem), f_X11_plan_122 k112 m v v4 (k : Int) η = (if v4' = 0 then (bd (f_X11_goesOnP η' (n : Int)) fun r3 μ4 => (k112 v r3 μ4)) else (bd (f_X11_gangs_ η' v) fun r8 μ9 => bd (f_X11_goesOnP μ9 (μ9 300 32)) fun r13 μ14 => (k112 r8 r13 μ14))) ∧ rS ρ η' ∧ η' 399 = η 399 ∧ (∀ a, a ≠ 321 → η' a = η a) ∧ (∀ j, j < n → η' 321 j = (w (P j) : Int)) ∧ ((v4' = 1 ∧ ∀ a b, a < b → b < n → P a ≠ P b) ∨ (v4' = 0 ∧ ∃ a b, a < b ∧ b < n ∧ P a = P b))
  | 0, m + 1, k, v4, η, h1, h2, h3, h4, h5, h6 => by
    have e32 : η 300 32 = (n : Int) := by rw [h3 300 (by omega) (by omega)]; exact h32
    have hk : k = n := by omega
    subst hk
    refine ⟨v4, η, ?_, h3, rfl, fun _ _ => rfl, h5, h6⟩
    rw [f_X11_plan_122_e, if_pos (by omega), e32]
  | e + 1, m + 1, k, v4, η, h1, h2, h3, h4, h5, h6 => by
    have e32 : η 300 32 = (n : Int) := by rw [h3 300 (by omega) (by omega)]; exact h32
    have e399 := h4 k (by omega)
    have hpk := hPn k (by omega)
    have e320 : η 320 (P k) = (w (P k) : Int) := by rw [h3 320 (by omega) (by omega)]; exact hw _ hpk
    rw [f_X11_plan_122_e, if_neg (by omega), if_pos (by omega), Int.toNat_natCast, e399, if_pos (by omega), Int.toNat_natCast, e320, lm_e]
    have hv : v4 = 0 ∨ v4 = 1 := by
      rcases h6 with q | q
      · exact Or.inr q.1
      · exact Or.inl q.1
    obtain ⟨v5, q1, q2⟩ := r_150 (k112 := k112) (k122 := f_X11_plan_122 k112 m) (v := v) (P := P) (η := up η 321 k (w (P k) : Int)) (k := k) (by omega) (fun j hj => by rw [up_ne (by decide)]; exact h4 j (by omega)) k 4000 0 v4 (by omega) (by omega) hv
    rw [show ((0 : Nat) : Int) = 0 from rfl] at q1
    obtain ⟨v4', η', w1, w2, w3, w4, w5, w6⟩ := r_122 (k112 := k112) (v := v) hn5 hPn hw h32 e m (k + 1) v5 (up η 321 k (w (P k) : Int)) (by omega) (by omega) (fun a x1 x2 => by rw [up_ne (by omega)]; exact h3 a x1 x2) (fun j hj => by rw [up_ne (by decide)]; exact h4 j hj) (fun j hj => by
      by_cases ej : j = k
      · subst ej; rw [up_at, upf_same]
      · rw [up_at, upf_ne ej]; exact h5 j (by omega)) (by
      rcases q2 with ⟨x1, x2, x3⟩ | ⟨x1, x2⟩
      · rcases h6 with ⟨y1, y2⟩ | ⟨y1, -⟩
        · refine Or.inl ⟨x1, fun a b hab hb => ?_⟩
          by_cases eb : b = k
          · rw [eb]; exact x3 a (Nat.zero_le _) (by omega)
          · exact y2 a b hab (by omega)
        · omega
      · rcases x2 with x2 | ⟨j, -, j2, j3⟩
        · rcases h6 with ⟨y1, -⟩ | ⟨-, y2⟩
          · omega
          · exact Or.inr ⟨x1, y2⟩
        · exact Or.inr ⟨x1, j, k, j2, by omega, j3⟩)
    rw [show ((k + 1 : Nat) : Int) = (k : Int) + 1 by omega] at w1
    refine ⟨v4', η', ?_, w2, by rw [w3, up_ne (by decide)], fun a ha => by rw [w4 a ha, up_ne ha], w5, w6⟩
    rw [q1, w1]
theorem r_P (h : PR ν w n μ) {ρ : Mem} (hq : PQ ν w n μ ρ) {GG : Nat} (hGG : μ 6 5 = (GG : Int)) (hG1 : 1 ≤ GG) (hnow : μ 6 9 ≤ 3001) : ∀ (rem m : Nat) (v : Int) (P : Nat → Nat) (η : Mem), codeN P n n + rem = n ^ n → rem < m → 1 ≤ rem → rS ρ η → (∀ k, k < n → η 399 k = (P k : Int) ∧ P k < n) → Bst ρ ν w n μ GG (μ 6 9) (codeN P n n) 0 v η → ∃ (v' : Int) (η' : Mem) (m' : Nat), f_X11_plan_112 m v 1 η = f_X11_plan_112 (m' + 1) v' 0 η' ∧ rS ρ η' ∧ Bst ρ ν w n μ GG (μ 6 9) (n ^ n) 0 v' η' := by
  have hn5 := h.2.2.2.2.1.2.2
  have hn1 := h.2.2.2.2.1.2.1
  intro rem
  induction rem with
  | zero => intro m v P η h1 h2 h3; omega
  | succ rem ih =>
    intro m v P η h1 h2 h3 h4 h5 h6
    obtain ⟨m, rfl⟩ : ∃ z, m = z + 1 := ⟨m - 1, by omega⟩
    have hPn : ∀ k, k < n → P k < n := fun k hk => (h5 k hk).2
    obtain ⟨v4, η1, a1, a2, a3, a4, a5, a6⟩ := r_122 (k112 := f_X11_plan_112 m) (v := v) (w := w) hn5 hPn hq.2.2.2.1 hq.2.2.1 n 4000 0 1 η (by omega) (by omega) h4 (fun j hj => (h5 j hj).1) (fun j hj => by omega) (Or.inl ⟨rfl, fun a b _ hb => by omega⟩)
    rw [show ((0 : Nat) : Int) = 0 from rfl] at a1
    have hb1 : Bst ρ ν w n μ GG (μ 6 9) (codeN P n n) 0 v η1 := Bst_fr h6 (a4 325 (by decide)) (a4 326 (by decide)) (a4 327 (by decide)) (a4 328 (by decide))
    have start : f_X11_plan_112 (m + 1) v 1 η = f_X11_plan_122 (f_X11_plan_112 m) 4000 v 1 0 η := by
      rw [f_X11_plan_112_e, if_neg (by decide)]
    -- on to the next order
    have next : ∀ (v2 : Int) (η2 : Mem), rS ρ η2 → η2 399 = η 399 → Bst ρ ν w n μ GG (μ 6 9) (codeN P n n + 1) 0 v2 η2 → f_X11_plan_112 (m + 1) v 1 η = bd (f_X11_goesOnP η2 (n : Int)) (fun r μ3 => f_X11_plan_112 m v2 r μ3) → ∃ (v' : Int) (η' : Mem) (m' : Nat), f_X11_plan_112 (m + 1) v 1 η = f_X11_plan_112 (m' + 1) v' 0 η' ∧ rS ρ η' ∧ Bst ρ ν w n μ GG (μ 6 9) (n ^ n) 0 v' η' := by
      intro v2 η2 x1 x2 x3 x4
      have h32 : η2 300 32 = (n : Int) := by rw [x1 300 (by omega) (by omega)]; exact hq.2.2.1
      obtain ⟨r, η3, f', b1, b2, b3, b4, b5⟩ := r_goP (b := n) ⟨hn1, by omega⟩ n 64 P η2 (by omega) hn5 (fun j hj => by rw [x2]; exact h5 j hj)
      have go : f_X11_goesOnP η2 (n : Int) = some (r, η3) := by
        unfold f_X11_goesOnP
        rw [h32, if_pos (by omega), b1]
      rw [x4, go, bd_some]
      have f3 : rS ρ η3 := fun a y1 y2 => by rw [b2 a y2]; exact x1 a y1 y2
      have s3 := Bst_fr (η' := η3) x3 (b2 325 (by decide)) (b2 326 (by decide)) (b2 327 (by decide)) (b2 328 (by decide))
      rcases b5 with ⟨r1, c1⟩ | ⟨r0, c1⟩
      · subst r1
        have hlt := codeN_lt (b := n) n (fun j hj => (b4 j hj).2)
        rw [← c1] at s3
        exact ih m v2 f' η3 (by omega) (by omega) (by omega) f3 b4 s3
      · subst r0
        obtain ⟨m, rfl⟩ : ∃ z, m = z + 1 := ⟨m - 1, by omega⟩
        rw [c1] at s3
        exact ⟨v2, η3, m, rfl, f3, s3⟩
    rcases a6 with ⟨v1, hinj⟩ | ⟨v0, a, b, hab, hb, hpe⟩
    · obtain ⟨v2, η2, q1, q2, q3, q4⟩ := r_gangs h hq hGG hG1 hnow hPn hinj a2 a5 hb1
      refine next v2 η2 q2 (by rw [q3, a3]) q4 ?_
      rw [start, a1, if_neg (by omega), q1, bd_some, q2 300 (by omega) (by omega), hq.2.2.1]
    · refine next v η1 a2 a3 (Bst_skip hPn (fun B hV => ?_) hb1) ?_
      · have hrz : ∀ i g x, -1 ≤ rdyZ ν w n μ i g x ∧ rdyZ ν w n μ i g x ≤ 3000 := (sr_of h (μ' := μ) ⟨fun _ _ _ _ _ _ _ => rfl, fun _ _ _ => rfl⟩).2.1
        exact (sched_pos hrz n 0 _ _ (fun _ _ => by decide) hV.2.2 b (Nat.zero_le _) (by omega)).2.2.1 a (Nat.zero_le _) hab hpe
      · rw [start, a1, if_pos v0]
end PR3
