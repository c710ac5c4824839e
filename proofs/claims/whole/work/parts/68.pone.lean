/-! THE PLAN, the reference: one choice of gangs -/
section PR2
variable {n : Nat} {rdy : Nat → Nat → Int → Int} {crs : Nat → Int}
def ldy (n : Nat) (rdy : Nat → Nat → Int → Int) (crs : Nat → Int) : List (Nat × Nat) → (Nat → Int) → (Nat → Int) → Int → Int
  | [], _, _, x => x
  | p :: l, F, Y, x => ldy n rdy crs l (upf F p.2 (layPd n rdy crs F Y p.1 p.2 + 1)) (upf Y p.1 (layPd n rdy crs F Y p.1 p.2)) (if layPd n rdy crs F Y p.1 p.2 ≤ x then x else layPd n rdy crs F Y p.1 p.2)
def tellR (n : Nat) (rdy : Nat → Nat → Int → Int) (crs : Nat → Int) (b e : Nat → Int) : List (Nat × Nat) → Nat → (Nat → Int) → (Nat → Int) → Prop
  | [], _, _, _ => True
  | p :: l, k, F, Y => (b k = F p.2 ∧ e k = layPd n rdy crs F Y p.1 p.2) ∧ tellR n rdy crs b e l (k + 1) (upf F p.2 (layPd n rdy crs F Y p.1 p.2 + 1)) (upf Y p.1 (layPd n rdy crs F Y p.1 p.2))
theorem ldy_e {p : Nat × Nat} {l : List (Nat × Nat)} {F Y : Nat → Int} {x : Int} : ldy n rdy crs (p :: l) F Y x = ldy n rdy crs l (upf F p.2 (layPd n rdy crs F Y p.1 p.2 + 1)) (upf Y p.1 (layPd n rdy crs F Y p.1 p.2)) (if layPd n rdy crs F Y p.1 p.2 ≤ x then x else layPd n rdy crs F Y p.1 p.2) := rfl
theorem layPd_cong {F F' Y Y' : Nat → Int} {i g : Nat} (hF : F g = F' g) (hY : ∀ j, j < n → Y j = Y' j) : layPd n rdy crs F Y i g = layPd n rdy crs F' Y' i g := by
  unfold layPd
  rw [hF]
  exact layTo_cong n (fun j hj _ => hY j hj)
theorem upf_cong {F F' : Nat → Int} {S : Nat → Prop} (h : ∀ j, S j → F j = F' j) {k : Nat} {v : Int} : ∀ j, S j → upf F k v j = upf F' k v j := by
  intro j hj
  by_cases e : j = k
  · subst e; rw [upf_same, upf_same]
  · rw [upf_ne e, upf_ne e]; exact h j hj
theorem sched_cong {D : Int} {S : Nat → Prop} : ∀ (l : List (Nat × Nat)) (F Y F' Y' : Nat → Int), (∀ p ∈ l, S p.2) → (∀ g, S g → F g = F' g) → (∀ j, j < n → Y j = Y' j) → sched n rdy crs D l F Y → sched n rdy crs D l F' Y'
  | [], _, _, _, _, _, _, _, _ => trivial
  | p :: l, F, Y, F', Y', h1, h2, h3, h => by
    rw [sched_e] at h ⊢
    have e := layPd_cong (rdy := rdy) (crs := crs) (i := p.1) (h2 p.2 (h1 p List.mem_cons_self)) h3
    obtain ⟨x1, x2, x3, x4, x5, x6⟩ := h
    rw [e] at x4 x5 x6
    refine ⟨x1, x2, by rw [← h3 p.1 x1]; exact x3, x4, x5, sched_cong l _ _ _ _ (fun q hq => h1 q (List.mem_cons_of_mem _ hq)) (upf_cong h2) (upf_cong (S := fun j => j < n) h3) x6⟩
theorem ldy_cong {S : Nat → Prop} : ∀ (l : List (Nat × Nat)) (F Y F' Y' : Nat → Int) (x : Int), (∀ p ∈ l, S p.2) → (∀ g, S g → F g = F' g) → (∀ j, j < n → Y j = Y' j) → ldy n rdy crs l F Y x = ldy n rdy crs l F' Y' x
  | [], _, _, _, _, _, _, _, _ => rfl
  | p :: l, F, Y, F', Y', x, h1, h2, h3 => by
    have e := layPd_cong (rdy := rdy) (crs := crs) (i := p.1) (h2 p.2 (h1 p List.mem_cons_self)) h3
    show ldy n rdy crs l _ _ _ = ldy n rdy crs l _ _ _
    rw [e]
    exact ldy_cong l _ _ _ _ _ (fun q hq => h1 q (List.mem_cons_of_mem _ hq)) (upf_cong h2) (upf_cong (S := fun j => j < n) h3)
theorem tellR_cong {S : Nat → Prop} {b e : Nat → Int} : ∀ (l : List (Nat × Nat)) (k : Nat) (F Y F' Y' : Nat → Int), (∀ p ∈ l, S p.2) → (∀ g, S g → F g = F' g) → (∀ j, j < n → Y j = Y' j) → tellR n rdy crs b e l k F Y → tellR n rdy crs b e l k F' Y'
  | [], _, _, _, _, _, _, _, _, _ => trivial
  | p :: l, k, F, Y, F', Y', h1, h2, h3, h => by
    have q := layPd_cong (rdy := rdy) (crs := crs) (i := p.1) (h2 p.2 (h1 p List.mem_cons_self)) h3
    obtain ⟨⟨x1, x2⟩, x3⟩ := h
    rw [q] at x2 x3
    exact ⟨⟨by rw [← h2 p.2 (h1 p List.mem_cons_self)]; exact x1, x2⟩, tellR_cong l (k + 1) _ _ _ _ (fun q hq => h1 q (List.mem_cons_of_mem _ hq)) (upf_cong h2) (upf_cong (S := fun j => j < n) h3) x3⟩
theorem ldy_s {D : Int} (hD : D ≤ 3000) : ∀ (l : List (Nat × Nat)) (F Y : Nat → Int) (x : Int), x ≤ D → (sched n rdy crs D l F Y ↔ sched n rdy crs 3000 l F Y ∧ ldy n rdy crs l F Y x ≤ D)
  | [], _, _, x, hx => ⟨fun _ => ⟨trivial, hx⟩, fun _ => trivial⟩
  | p :: l, F, Y, x, hx => by
    have hge : ∀ (l : List (Nat × Nat)) (F Y : Nat → Int) (x : Int), x ≤ ldy n rdy crs l F Y x := by
      intro l
      induction l with
      | nil => intro _ _ x; exact Int.le_refl x
      | cons p l ih =>
        intro F Y x
        have := ih (upf F p.2 (layPd n rdy crs F Y p.1 p.2 + 1)) (upf Y p.1 (layPd n rdy crs F Y p.1 p.2)) (if layPd n rdy crs F Y p.1 p.2 ≤ x then x else layPd n rdy crs F Y p.1 p.2)
        show x ≤ ldy n rdy crs l _ _ _
        refine Int.le_trans ?_ this
        split <;> omega
    have e : ldy n rdy crs (p :: l) F Y x = ldy n rdy crs l (upf F p.2 (layPd n rdy crs F Y p.1 p.2 + 1)) (upf Y p.1 (layPd n rdy crs F Y p.1 p.2)) (if layPd n rdy crs F Y p.1 p.2 ≤ x then x else layPd n rdy crs F Y p.1 p.2) := rfl
    rw [e, sched_e, sched_e]
    generalize layPd n rdy crs F Y p.1 p.2 = day
    constructor
    · rintro ⟨x1, x2, x3, x4, x5, x6⟩
      obtain ⟨y1, y2⟩ := (ldy_s hD l _ _ (if day ≤ x then x else day) (by split <;> omega)).mp x6
      exact ⟨⟨x1, x2, x3, x4, by omega, y1⟩, y2⟩
    · rintro ⟨⟨x1, x2, x3, x4, x5, x6⟩, y⟩
      have hle := hge l (upf F p.2 (day + 1)) (upf Y p.1 day) (if day ≤ x then x else day)
      have h9 := Int.le_trans hle y
      have hd : day ≤ D := by
        split at h9 <;> omega
      exact ⟨x1, x2, x3, x4, hd, (ldy_s hD l _ _ (if day ≤ x then x else day) (by split <;> omega)).mpr ⟨x6, y⟩⟩
end PR2
section PR3
variable {ν μ : Mem} {w : Nat → Nat} {n : Nat}
theorem r_109 (h : PR ν w n μ) {ρ : Mem} (hq : PQ ν w n μ ρ) {k24 : Int → Int → Mem → Option (Int × Mem)} {v2 : Int} {P B : Nat → Nat} (hPn : ∀ k, k < n → P k < n) (hinj : ∀ j k, j < k → k < n → P j ≠ P k) (hB : ∀ k, k < n → (B k : Int) < μ 6 5) (hlead : ∀ k, k < n → leadV ν (μ 17) (μ 6 5) (μ 6 8) (w (P k)) (B k) ≠ -1) : ∀ (d k m : Nat) (η : Mem) (last : Int) (Y : Nat → Int), k + d = n → d + 1 < m → rS ρ η → (∀ i, i < n → η 321 i = (w (P i) : Int) ∧ η 322 i = (B i : Int)) → (∀ g : Nat, (g : Int) < μ 6 5 → 0 ≤ η 329 g ∧ η 329 g ≤ 3001) → (∀ m, m < k → Y (P m) = η 324 m ∧ 0 ≤ η 324 m ∧ η 324 m ≤ 3000) → (∀ m, k ≤ m → m < n → Y (P m) = -1) → (∀ j, -1 ≤ Y j) → ∃ (v4 last' : Int) (η' : Mem), f_X11_gangs__109 k24 m v2 1 last (k : Int) η = f_X11_gangs__163 k24 v2 v4 last' η' ∧ (∀ a, a ≠ 323 → a ≠ 324 → a ≠ 329 → η' a = η a) ∧ (∀ j, j < k → v4 = 1 → η' 323 j = η 323 j ∧ η' 324 j = η 324 j) ∧ ((v4 = 1 ∧ sched n (rdyZ ν w n μ) (crsM ν w) 3000 (plz P B k d) (η 329) Y ∧ last' = ldy n (rdyZ ν w n μ) (crsM ν w) (plz P B k d) (η 329) Y last ∧ tellR n (rdyZ ν w n μ) (crsM ν w) (η' 323) (η' 324) (plz P B k d) k (η 329) Y) ∨ (v4 = 0 ∧ ¬ sched n (rdyZ ν w n μ) (crsM ν w) 3000 (plz P B k d) (η 329) Y)) := by
  have hn5 := h.2.2.2.2.1.2.2
  have hG6 : μ 6 5 ≤ 6 := (sN_n (sN_of h.1)).2.2.1
  have hrz : ∀ i g x, -1 ≤ rdyZ ν w n μ i g x ∧ rdyZ ν w n μ i g x ≤ 3000 := (sr_of h (μ' := μ) ⟨fun _ _ _ _ _ _ _ => rfl, fun _ _ _ => rfl⟩).2.1
  intro d
  induction d with
  | zero =>
    intro k m η last Y h1 h2 h3 h4 h5 h6 h7 h8
    obtain ⟨m, rfl⟩ : ∃ z, m = z + 1 := ⟨m - 1, by omega⟩
    have h32 : η 300 32 = (n : Int) := by rw [h3 300 (by omega) (by omega)]; exact hq.2.2.1
    refine ⟨1, last, η, ?_, fun _ _ _ _ => rfl, fun _ _ _ => ⟨rfl, rfl⟩, Or.inl ⟨rfl, trivial, rfl, trivial⟩⟩
    rw [f_X11_gangs__109_e, if_pos (by omega)]
  | succ d ih =>
    intro k m η last Y h1 h2 h3 h4 h5 h6 h7 h8
    obtain ⟨m, rfl⟩ : ∃ z, m = z + 1 := ⟨m - 1, by omega⟩
    have h32 : η 300 32 = (n : Int) := by rw [h3 300 (by omega) (by omega)]; exact hq.2.2.1
    have hgk := hB k (by omega)
    obtain ⟨r, η1, q1, q2⟩ := r_lays h hq h3 hPn hinj (fun i hi => (h4 i hi).1) (k := k) (g := B k) (by omega) (h4 k (by omega)).2 hgk (hlead k (by omega)) (Y := Y) (h5 (B k) hgk) h6 h7 h8
    have hlb := lay_b (n := n) (rdy := rdyZ ν w n μ) (crs := crsM ν w) (F := η 329) (Y := Y) (i := P k) (g := B k) hrz (fun j _ => h8 j)
    rw [f_X11_gangs__109_e, if_neg (by omega), if_neg (by decide), q1, bd_some, if_pos (by omega), Int.toNat_natCast]
    rcases q2 with ⟨c1, r1, e1⟩ | ⟨c1, r0, e1⟩
    · subst r1
      have e324 : η1 324 k = layPd n (rdyZ ν w n μ) (crsM ν w) (η 329) Y (P k) (B k) := by rw [e1]; simp (disch := omega) only [bd_some, lm_e, if_pos, if_neg, up_ne, up_at, upf_same, upf_ne, reduceIte, or_true, true_or, Int.reduceToNat, Int.toNat_natCast, tn100, tn200]
      have e323 : η1 323 k = η 329 (B k) := by rw [e1]; simp (disch := omega) only [bd_some, lm_e, if_pos, if_neg, up_ne, up_at, upf_same, upf_ne, reduceIte, or_true, true_or, Int.reduceToNat, Int.toNat_natCast, tn100, tn200]
      have e329 : η1 329 = upf (η 329) (B k) (layPd n (rdyZ ν w n μ) (crsM ν w) (η 329) Y (P k) (B k) + 1) := by rw [e1]; simp (disch := omega) only [bd_some, lm_e, if_pos, if_neg, up_ne, up_at, upf_same, upf_ne, reduceIte, or_true, true_or, Int.reduceToNat, Int.toNat_natCast, tn100, tn200]
      have fr : ∀ a, a ≠ 323 → a ≠ 324 → a ≠ 329 → η1 a = η a := fun a a1 a2 a3 => by rw [e1]; simp (disch := omega) only [bd_some, lm_e, if_pos, if_neg, up_ne, up_at, upf_same, upf_ne, reduceIte, or_true, true_or, Int.reduceToNat, Int.toNat_natCast, tn100, tn200]
      have pre : ∀ j, j ≠ k → η1 323 j = η 323 j ∧ η1 324 j = η 324 j := fun j hj => by rw [e1]; simp (disch := omega) only [bd_some, lm_e, if_pos, if_neg, up_ne, up_at, upf_same, upf_ne, reduceIte, or_true, true_or, Int.reduceToNat, Int.toNat_natCast, tn100, tn200]; exact ⟨trivial, trivial⟩
      clear e1
      generalize hdy : layPd n (rdyZ ν w n μ) (crsM ν w) (η 329) Y (P k) (B k) = day at hlb c1 e324 e329
      have hday : layPd n (rdyZ ν w n μ) (crsM ν w) (η 329) Y (P k, B k).1 (P k, B k).2 = day := hdy
      obtain ⟨v4, last', η', w1, w2, w3, w4⟩ := ih (k + 1) m η1 (if day ≤ last then last else day) (upf Y (P k) day) (by omega) (by omega) (fun a a1 a2 => by rw [fr a (by omega) (by omega) (by omega)]; exact h3 a a1 a2) (fun i hi => by rw [fr 321 (by decide) (by decide) (by decide), fr 322 (by decide) (by decide) (by decide)]; exact h4 i hi) (fun g hg => by
        rw [e329]
        by_cases eg : g = B k
        · subst eg; rw [upf_same]; omega
        · rw [upf_ne eg]; exact h5 g hg) (fun x hx => by
        by_cases ex : x = k
        · subst ex
          rw [upf_same, e324]
          exact ⟨rfl, by omega, by omega⟩
        · rw [upf_ne (hinj x k (by omega) (by omega)), (pre x ex).2]
          exact h6 x (by omega)) (fun x x1 x2 => by
        rw [upf_ne (fun z => hinj k x (by omega) x2 z.symm)]
        exact h7 x (by omega) x2) (fun j => by
        by_cases ej : j = P k
        · subst ej; rw [upf_same]; omega
        · rw [upf_ne ej]; exact h8 j)
      rw [show ((k + 1 : Nat) : Int) = (k : Int) + 1 by omega] at w1
      rw [e329] at w4
      refine ⟨v4, last', η', ?_, fun a a1 a2 a3 => (w2 a a1 a2 a3).trans (fr a a1 a2 a3), fun j hj hv => ?_, ?_⟩
      · rw [e324]
        by_cases c : day ≤ last
        · rw [if_pos c] at w1
          rw [if_pos c, if_pos (by omega), w1]
        · rw [if_neg c] at w1
          rw [if_neg c, if_pos (by omega), w1]
      · rw [(w3 j (by omega) hv).1, (w3 j (by omega) hv).2]
        exact pre j (by omega)
      · rcases w4 with ⟨x1, x2, x3, x4⟩ | ⟨x1, x2⟩
        · refine Or.inl ⟨x1, ?_, ?_, ?_⟩
          · rw [plz_e, sched_e, hday]
            exact ⟨hPn k (by omega), by show B k < 6; omega, h7 k (Nat.le_refl k) (by omega), c1, by omega, x2⟩
          · rw [plz_e, ldy_e, hday]
            exact x3
          · rw [plz_e]
            refine ⟨⟨?_, ?_⟩, ?_⟩
            · rw [(w3 k (by omega) x1).1]; exact e323
            · rw [(w3 k (by omega) x1).2, e324, hday]
            · rw [hday]; exact x4
        · refine Or.inr ⟨x1, fun hs => x2 ?_⟩
          rw [plz_e, sched_e, hday] at hs
          exact hs.2.2.2.2.2
    · subst r0
      obtain ⟨m, rfl⟩ : ∃ z, m = z + 1 := ⟨m - 1, by omega⟩
      have nos : ¬ sched n (rdyZ ν w n μ) (crsM ν w) 3000 (plz P B k (d + 1)) (η 329) Y := by
        intro hs
        rw [plz_e, sched_e] at hs
        exact hs.2.2.2.1 c1
      have go : ∀ l : Int, f_X11_gangs__109 k24 (m + 1) v2 0 l ((k : Int) + 1) η1 = f_X11_gangs__163 k24 v2 0 l η1 := by
        intro l
        rw [f_X11_gangs__109_e]
        by_cases c : η1 300 32 ≤ (k : Int) + 1
        · rw [if_pos c]
        · rw [if_neg c, if_pos rfl]
      by_cases c : η1 324 k ≤ last
      · refine ⟨0, last, η1, ?_, e1, fun j _ hv => absurd hv (by decide), Or.inr ⟨rfl, nos⟩⟩
        rw [if_pos c, if_pos (by omega), go]
      · refine ⟨0, η1 324 k, η1, ?_, e1, fun j _ hv => absurd hv (by decide), Or.inr ⟨rfl, nos⟩⟩
        rw [if_neg c, if_pos (by omega), go]
theorem r_34 (h : PR ν w n μ) {ρ η : Mem} (hq : PQ ν w n μ ρ) (hf : rS ρ η) {k24 : Int → Int → Mem → Option (Int × Mem)} {v2 : Int} {P B : Nat → Nat} (hPn : ∀ k, k < n → P k < n) (hB : ∀ k, k < n → (B k : Int) < μ 6 5) (hrow : ∀ i, i < n → η 321 i = (w (P i) : Int) ∧ η 322 i = (B i : Int)) : ∀ (e m k : Nat), k + e = n → e + 1 < m → ∃ v4 : Int, f_X11_gangs__34 k24 m v2 1 (k : Int) η = f_X11_gangs__77 k24 8000 v2 v4 0 η ∧ ((v4 = 1 ∧ ∀ j, k ≤ j → j < n → leadV ν (μ 17) (μ 6 5) (μ 6 8) (w (P j)) (B j) ≠ -1) ∨ (v4 = 0 ∧ ∃ j, k ≤ j ∧ j < n ∧ leadV ν (μ 17) (μ 6 5) (μ 6 8) (w (P j)) (B j) = -1))
  | 0, m + 1, k, h1, h2 => by
    have h32 : η 300 32 = (n : Int) := by rw [hf 300 (by omega) (by omega)]; exact hq.2.2.1
    refine ⟨1, ?_, Or.inl ⟨rfl, fun j j1 j2 => by omega⟩⟩
    rw [f_X11_gangs__34_e, if_pos (by omega)]
  | e + 1, m + 2, k, h1, h2 => by
    have hn5 := h.2.2.2.2.1.2.2
    have h32 : η 300 32 = (n : Int) := by rw [hf 300 (by omega) (by omega)]; exact hq.2.2.1
    obtain ⟨p1, p2⟩ := hrow k (by omega)
    rw [f_X11_gangs__34_e, if_neg (by omega), if_neg (by decide), if_pos (by omega), Int.toNat_natCast, p1, p2, r_can h hq hf (hPn k (by omega)) (hB k (by omega)), bd_some, if_pos (by omega)]
    by_cases c : leadV ν (μ 17) (μ 6 5) (μ 6 8) (w (P k)) (B k) = -1
    · refine ⟨0, ?_, Or.inr ⟨rfl, k, Nat.le_refl k, by omega, c⟩⟩
      rw [b2i_f (fun x => x c), f_X11_gangs__34_e]
      by_cases c2 : η 300 32 ≤ (k : Int) + 1
      · rw [if_pos c2]
      · rw [if_neg c2, if_pos rfl]
    · rw [b2i_t c, show (k : Int) + 1 = ((k + 1 : Nat) : Int) by omega]
      obtain ⟨v4, q1, q2⟩ := r_34 h hq hf (k24 := k24) (v2 := v2) hPn hB hrow e (m + 1) (k + 1) (by omega) (by omega)
      refine ⟨v4, q1, ?_⟩
      rcases q2 with ⟨x1, x2⟩ | ⟨x1, j, x2, x3⟩
      · refine Or.inl ⟨x1, fun j j1 j2 => ?_⟩
        by_cases ej : j = k
        · rw [ej]; exact c
        · exact x2 j (by omega) j2
      · exact Or.inr ⟨x1, j, by omega, x3⟩
theorem r_77 {k24 : Int → Int → Mem → Option (Int × Mem)} {v2 v4 : Int} {GG : Nat} (hG6 : GG ≤ 6) {now : Int} : ∀ (e m g : Nat) (η : Mem), g + e = GG → e < m → η 300 2 = (GG : Int) → η 300 1 = now → (∀ g', g' < g → η 329 g' = now) → ∃ η', f_X11_gangs__77 k24 m v2 v4 (g : Int) η = f_X11_gangs__109 k24 8000 v2 v4 0 0 η' ∧ (∀ a, a ≠ 329 → η' a = η a) ∧ (∀ g', g' < GG → η' 329 g' = now)
  | 0, m + 1, g, η, h1, h2, h3, h4, h5 => by
    refine ⟨η, ?_, fun _ _ => rfl, fun g' hg' => h5 g' (by omega)⟩
    rw [f_X11_gangs__77_e, if_pos (by omega)]
  | e + 1, m + 1, g, η, h1, h2, h3, h4, h5 => by
    obtain ⟨η', q1, q2, q3⟩ := r_77 (k24 := k24) (v2 := v2) (v4 := v4) hG6 (now := now) e m (g + 1) (up η 329 g now) (by omega) (by omega) (by simp (disch := omega) only [bd_some, lm_e, if_pos, if_neg, up_ne, up_at, upf_same, upf_ne, reduceIte, or_true, true_or, Int.reduceToNat, Int.toNat_natCast, tn100, tn200]; exact h3) (by simp (disch := omega) only [bd_some, lm_e, if_pos, if_neg, up_ne, up_at, upf_same, upf_ne, reduceIte, or_true, true_or, Int.reduceToNat, Int.toNat_natCast, tn100, tn200]; exact h4) (fun g' hg' => by
      by_cases eg : g' = g
      · subst eg; simp (disch := omega) only [bd_some, lm_e, if_pos, if_neg, up_ne, up_at, upf_same, upf_ne, reduceIte, or_true, true_or, Int.reduceToNat, Int.toNat_natCast, tn100, tn200]
      · simp (disch := omega) only [bd_some, lm_e, if_pos, if_neg, up_ne, up_at, upf_same, upf_ne, reduceIte, or_true, true_or, Int.reduceToNat, Int.toNat_natCast, tn100, tn200]; exact h5 g' (by omega))
    refine ⟨η', ?_, fun a ha => by rw [q2 a ha, up_ne ha], q3⟩
    rw [f_X11_gangs__77_e, if_neg (by omega), if_pos (by omega), lm_e, if_pos (by omega), Int.toNat_natCast, h4, show (g : Int) + 1 = ((g + 1 : Nat) : Int) by omega, q1]
theorem r_185 {k24 : Int → Int → Mem → Option (Int × Mem)} {v2 : Int} (hn5 : n ≤ 5) : ∀ (e m k : Nat) (η : Mem), k + e = n → e < m → η 300 32 = (n : Int) → ∃ η', f_X11_gangs__185 k24 m v2 (k : Int) η = bd (f_X11_goesOnB η' (η' 300 2)) (fun r2 μ3 => k24 v2 r2 μ3) ∧ (∀ a, ¬ (325 ≤ a ∧ a ≤ 328) → η' a = η a) ∧ (∀ j, j < k → η' 325 j = η 325 j ∧ η' 326 j = η 326 j ∧ η' 327 j = η 327 j ∧ η' 328 j = η 328 j) ∧ (∀ j, k ≤ j → j < n → η' 325 j = η 321 j ∧ η' 326 j = η 322 j ∧ η' 327 j = η 323 j ∧ η' 328 j = η 324 j)
  | 0, m + 1, k, η, h1, h2, h3 => by
    refine ⟨η, ?_, fun _ _ => rfl, fun _ _ => ⟨rfl, rfl, rfl, rfl⟩, fun j j1 j2 => by omega⟩
    rw [f_X11_gangs__185_e, if_pos (by omega)]
  | e + 1, m + 1, k, η, h1, h2, h3 => by
    obtain ⟨η', q1, q2, q3, q4⟩ := r_185 (k24 := k24) (v2 := v2) hn5 e m (k + 1) (up (up (up (up η 325 k (η 321 k)) 326 k (η 322 k)) 327 k (η 323 k)) 328 k (η 324 k)) (by omega) (by omega) (by simp (disch := omega) only [bd_some, lm_e, if_pos, if_neg, up_ne, up_at, upf_same, upf_ne, reduceIte, or_true, true_or, Int.reduceToNat, Int.toNat_natCast, tn100, tn200]; exact h3)
    refine ⟨η', ?_, fun a ha => by rw [q2 a ha]; simp (disch := omega) only [bd_some, lm_e, if_pos, if_neg, up_ne, up_at, upf_same, upf_ne, reduceIte, or_true, true_or, Int.reduceToNat, Int.toNat_natCast, tn100, tn200], fun j hj => ?_, fun j j1 j2 => ?_⟩
    · rw [f_X11_gangs__185_e, if_neg (by omega), if_pos (by omega)]
      simp only [Int.toNat_natCast, lm_e]
      simp (disch := omega) only [bd_some, lm_e, if_pos, if_neg, up_ne, up_at, upf_same, upf_ne, reduceIte, or_true, true_or, Int.reduceToNat, Int.toNat_natCast, tn100, tn200]
      rw [show (k : Int) + 1 = ((k + 1 : Nat) : Int) by omega]
      exact q1
    · have := q3 j (by omega)
      simp (disch := omega) only [bd_some, lm_e, if_pos, if_neg, up_ne, up_at, upf_same, upf_ne, reduceIte, or_true, true_or, Int.reduceToNat, Int.toNat_natCast, tn100, tn200] at this
      exact this
    · by_cases ej : j = k
      · subst ej
        have := q3 j (by omega)
        simp (disch := omega) only [bd_some, lm_e, if_pos, if_neg, up_ne, up_at, upf_same, upf_ne, reduceIte, or_true, true_or, Int.reduceToNat, Int.toNat_natCast, tn100, tn200] at this
        exact this
      · have := q4 j (by omega) j2
        simp (disch := omega) only [bd_some, lm_e, if_pos, if_neg, up_ne, up_at, upf_same, upf_ne, reduceIte, or_true, true_or, Int.reduceToNat, Int.toNat_natCast, tn100, tn200] at this
        exact this
end PR3
