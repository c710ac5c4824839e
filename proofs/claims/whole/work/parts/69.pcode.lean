/-! THE PLAN, the reference: all choices, in their order -/
def codeN (f : Nat → Nat) (b : Nat) : Nat → Nat
  | 0 => 0
  | k + 1 => codeN f b k * b + f k
theorem codeN_cong {f f' : Nat → Nat} {b : Nat} : ∀ k : Nat, (∀ j, j < k → f j = f' j) → codeN f b k = codeN f' b k
  | 0, _ => rfl
  | k + 1, h => by
    show codeN f b k * b + f k = codeN f' b k * b + f' k
    rw [codeN_cong k (fun j hj => h j (by omega)), h k (by omega)]
theorem codeN_lt {f : Nat → Nat} {b : Nat} : ∀ k : Nat, (∀ j, j < k → f j < b) → codeN f b k + 1 ≤ b ^ k
  | 0, _ => by show 0 + 1 ≤ 1; omega
  | k + 1, h => by
    have ih := codeN_lt k (fun j hj => h j (by omega))
    have hk := h k (by omega)
    have hm := Nat.mul_le_mul_right b ih
    rw [Nat.succ_mul] at hm
    show codeN f b k * b + f k + 1 ≤ b ^ (k + 1)
    rw [Nat.pow_succ]
    omega
theorem codeN_cmp {f f' : Nat → Nat} {b : Nat} : ∀ k : Nat, (∀ j, j < k → f j < b) → (∀ j, j < k → f' j < b) → (codeN f b k = codeN f' b k → ∀ j, j < k → f j = f' j) ∧ (codeN f b k < codeN f' b k → ∃ m, m < k ∧ (∀ j, j < m → f j = f' j) ∧ f m < f' m)
  | 0, _, _ => ⟨fun _ j hj => by omega, fun h => by
    have : (0 : Nat) < 0 := h
    omega⟩
  | k + 1, h, h' => by
    obtain ⟨i1, i2⟩ := codeN_cmp (f := f) (f' := f') k (fun j hj => h j (by omega)) (fun j hj => h' j (by omega))
    have a := h k (by omega)
    have a' := h' k (by omega)
    have e : codeN f b (k + 1) = codeN f b k * b + f k := rfl
    have e' : codeN f' b (k + 1) = codeN f' b k * b + f' k := rfl
    rw [e, e']
    rcases Nat.lt_trichotomy (codeN f b k) (codeN f' b k) with q | q | q
    · have hm := Nat.mul_le_mul_right b (show codeN f b k + 1 ≤ codeN f' b k from q)
      rw [Nat.succ_mul] at hm
      refine ⟨fun x => by omega, fun _ => ?_⟩
      obtain ⟨m, m1, m2, m3⟩ := i2 q
      exact ⟨m, by omega, m2, m3⟩
    · refine ⟨fun x j hj => ?_, fun x => ⟨k, by omega, i1 q, by rw [q] at x; omega⟩⟩
      by_cases ej : j = k
      · rw [q] at x
        rw [ej]; omega
      · exact i1 q j (by omega)
    · have hm := Nat.mul_le_mul_right b (show codeN f' b k + 1 ≤ codeN f b k from q)
      rw [Nat.succ_mul] at hm
      exact ⟨fun x => by omega, fun x => by omega⟩
theorem r_goB {b : Nat} (hb : 1 ≤ b ∧ b ≤ 6) : ∀ (k m : Nat) (f : Nat → Nat) (η : Mem), k < m → k ≤ 5 → (∀ j, j < k → η 322 j = (f j : Int) ∧ f j < b) → ∃ (r : Int) (η' : Mem) (f' : Nat → Nat), f_X11_goesOnB_7 m (b : Int) ((k : Int) - 1) η = some (r, η') ∧ (∀ a, a ≠ 322 → η' a = η a) ∧ (∀ j, k ≤ j → η' 322 j = η 322 j) ∧ (∀ j, j < k → η' 322 j = (f' j : Int) ∧ f' j < b) ∧ ((r = 1 ∧ codeN f' b k = codeN f b k + 1) ∨ (r = 0 ∧ codeN f b k + 1 = b ^ k))
  | 0, m + 1, f, η, h1, h2, h3 => by
    refine ⟨0, η, f, ?_, fun _ _ => rfl, fun _ _ => rfl, fun j hj => by omega, Or.inr ⟨rfl, rfl⟩⟩
    rw [f_X11_goesOnB_7_e, if_pos (by omega)]
  | k + 1, m + 1, f, η, h1, h2, h3 => by
    obtain ⟨p1, p2⟩ := h3 k (by omega)
    have ek : ((k + 1 : Nat) : Int) - 1 = (k : Int) := by omega
    have ek2 : (k : Int) + (-1) = (k : Int) - 1 := by omega
    rw [f_X11_goesOnB_7_e, ek, if_neg (by omega), if_pos (by omega), Int.toNat_natCast, p1, if_pos (by omega), lm_e]
    have e1 : up η 322 k ((f k : Int) + 1) 322 k = (f k : Int) + 1 := by rw [up_at, upf_same]
    rw [e1]
    by_cases c : (b : Int) ≤ (f k : Int) + 1
    · obtain ⟨r, η', f', q1, q2, q3, q4, q5⟩ := r_goB hb k m f (up η 322 k 0) (by omega) (by omega) (fun j hj => by rw [up_at, upf_ne (by omega)]; exact h3 j (by omega))
      refine ⟨r, η', upN f' k 0, ?_, fun a ha => by rw [q2 a ha, up_ne ha], fun j hj => by rw [q3 j (by omega), up_at, upf_ne (by omega)], fun j hj => ?_, ?_⟩
      · rw [if_pos c, lm_e, up_up, if_pos (by omega), ek2, q1]
      · by_cases ej : j = k
        · subst ej
          rw [upN_same, q3 j (Nat.le_refl j), up_at, upf_same]
          exact ⟨rfl, by omega⟩
        · rw [upN_ne ej]
          exact q4 j (by omega)
      · have hf : f k + 1 = b := by omega
        rcases q5 with ⟨x1, x2⟩ | ⟨x1, x2⟩
        · left
          refine ⟨x1, ?_⟩
          show codeN (upN f' k 0) b k * b + upN f' k 0 k = codeN f b k * b + f k + 1
          rw [upN_same, codeN_cong (f' := f') k (fun j hj => upN_ne (by omega)), x2, Nat.succ_mul]
          omega
        · right
          refine ⟨x1, ?_⟩
          show codeN f b k * b + f k + 1 = b ^ (k + 1)
          rw [Nat.pow_succ, ← x2, Nat.succ_mul]
          omega
    · refine ⟨1, up η 322 k ((f k : Int) + 1), upN f k (f k + 1), by rw [if_neg c], fun a ha => up_ne ha, fun j hj => by rw [up_at, upf_ne (by omega)], fun j hj => ?_, Or.inl ⟨rfl, ?_⟩⟩
      · by_cases ej : j = k
        · subst ej
          rw [upN_same, up_at, upf_same]
          exact ⟨by omega, by omega⟩
        · rw [upN_ne ej, up_at, upf_ne ej]
          exact h3 j (by omega)
      · show codeN (upN f k (f k + 1)) b k * b + upN f k (f k + 1) k = codeN f b k * b + f k + 1
        rw [upN_same, codeN_cong (f' := f) k (fun j hj => upN_ne (by omega))]
        omega
theorem r_goP {b : Nat} (hb : 1 ≤ b ∧ b ≤ 6) : ∀ (k m : Nat) (f : Nat → Nat) (η : Mem), k < m → k ≤ 5 → (∀ j, j < k → η 399 j = (f j : Int) ∧ f j < b) → ∃ (r : Int) (η' : Mem) (f' : Nat → Nat), f_X11_goesOnP_7 m (b : Int) ((k : Int) - 1) η = some (r, η') ∧ (∀ a, a ≠ 399 → η' a = η a) ∧ (∀ j, k ≤ j → η' 399 j = η 399 j) ∧ (∀ j, j < k → η' 399 j = (f' j : Int) ∧ f' j < b) ∧ ((r = 1 ∧ codeN f' b k = codeN f b k + 1) ∨ (r = 0 ∧ codeN f b k + 1 = b ^ k))
  | 0, m + 1, f, η, h1, h2, h3 => by
    refine ⟨0, η, f, ?_, fun _ _ => rfl, fun _ _ => rfl, fun j hj => by omega, Or.inr ⟨rfl, rfl⟩⟩
    rw [f_X11_goesOnP_7_e, if_pos (by omega)]
  | k + 1, m + 1, f, η, h1, h2, h3 => by
    obtain ⟨p1, p2⟩ := h3 k (by omega)
    have ek : ((k + 1 : Nat) : Int) - 1 = (k : Int) := by omega
    have ek2 : (k : Int) + (-1) = (k : Int) - 1 := by omega
    rw [f_X11_goesOnP_7_e, ek, if_neg (by omega), if_pos (by omega), Int.toNat_natCast, p1, if_pos (by omega), lm_e]
    have e1 : up η 399 k ((f k : Int) + 1) 399 k = (f k : Int) + 1 := by rw [up_at, upf_same]
    rw [e1]
    by_cases c : (b : Int) ≤ (f k : Int) + 1
    · obtain ⟨r, η', f', q1, q2, q3, q4, q5⟩ := r_goP hb k m f (up η 399 k 0) (by omega) (by omega) (fun j hj => by rw [up_at, upf_ne (by omega)]; exact h3 j (by omega))
      refine ⟨r, η', upN f' k 0, ?_, fun a ha => by rw [q2 a ha, up_ne ha], fun j hj => by rw [q3 j (by omega), up_at, upf_ne (by omega)], fun j hj => ?_, ?_⟩
      · rw [if_pos c, lm_e, up_up, if_pos (by omega), ek2, q1]
      · by_cases ej : j = k
        · subst ej
          rw [upN_same, q3 j (Nat.le_refl j), up_at, upf_same]
          exact ⟨rfl, by omega⟩
        · rw [upN_ne ej]
          exact q4 j (by omega)
      · have hf : f k + 1 = b := by omega
        rcases q5 with ⟨x1, x2⟩ | ⟨x1, x2⟩
        · left
          refine ⟨x1, ?_⟩
          show codeN (upN f' k 0) b k * b + upN f' k 0 k = codeN f b k * b + f k + 1
          rw [upN_same, codeN_cong (f' := f') k (fun j hj => upN_ne (by omega)), x2, Nat.succ_mul]
          omega
        · right
          refine ⟨x1, ?_⟩
          show codeN f b k * b + f k + 1 = b ^ (k + 1)
          rw [Nat.pow_succ, ← x2, Nat.succ_mul]
          omega
    · refine ⟨1, up η 399 k ((f k : Int) + 1), upN f k (f k + 1), by rw [if_neg c], fun a ha => up_ne ha, fun j hj => by rw [up_at, upf_ne (by omega)], fun j hj => ?_, Or.inl ⟨rfl, ?_⟩⟩
      · by_cases ej : j = k
        · subst ej
          rw [upN_same, up_at, upf_same]
          exact ⟨by omega, by omega⟩
        · rw [upN_ne ej, up_at, upf_ne ej]
          exact h3 j (by omega)
      · show codeN (upN f k (f k + 1)) b k * b + upN f k (f k + 1) k = codeN f b k * b + f k + 1
        rw [upN_same, codeN_cong (f' := f) k (fun j hj => upN_ne (by omega))]
        omega
theorem plz_mem {O B : Nat → Nat} : ∀ (d a : Nat), ∀ p ∈ plz O B a d, ∃ k, a ≤ k ∧ k < a + d ∧ p = (O k, B k)
  | 0, a, p, hp => absurd hp List.not_mem_nil
  | d + 1, a, p, hp => by
    rw [plz_e] at hp
    rcases List.mem_cons.mp hp with e | e
    · exact ⟨a, Nat.le_refl a, by omega, e⟩
    · obtain ⟨k, k1, k2, k3⟩ := plz_mem d (a + 1) p e
      exact ⟨k, by omega, by omega, k3⟩
theorem ldy_ge {n : Nat} {rdy : Nat → Nat → Int → Int} {crs : Nat → Int} : ∀ (l : List (Nat × Nat)) (F Y : Nat → Int) (x : Int), x ≤ ldy n rdy crs l F Y x
  | [], _, _, x => Int.le_refl x
  | p :: l, F, Y, x => by
    rw [ldy_e]
    refine Int.le_trans ?_ (ldy_ge l _ _ _)
    split <;> omega
section PR3
variable {ν μ : Mem} {w : Nat → Nat} {n : Nat}
theorem sched_lead (h : PR ν w n μ) {P B : Nat → Nat} {D : Int} : ∀ (d a : Nat) (F Y : Nat → Int), (∀ j, -1 ≤ Y j) → sched n (rdyZ ν w n μ) (crsM ν w) D (plz P B a d) F Y → ∀ k, a ≤ k → k < a + d → leadV ν (μ 17) (μ 6 5) (μ 6 8) (w (P k)) (B k) ≠ -1
  | 0, a, F, Y, _, _, k, k1, k2 => by omega
  | d + 1, a, F, Y, hY, hs, k, k1, k2 => by
    have hrz : ∀ i g x, -1 ≤ rdyZ ν w n μ i g x ∧ rdyZ ν w n μ i g x ≤ 3000 := (sr_of h (μ' := μ) ⟨fun _ _ _ _ _ _ _ => rfl, fun _ _ _ => rfl⟩).2.1
    rw [plz_e, sched_e] at hs
    obtain ⟨x1, x2, x3, x4, x5, x6⟩ := hs
    by_cases e : k = a
    · subst e
      intro hl
      apply x4
      have e1 : rdyZ ν w n μ (P k) (B k) (F (B k)) = -1 := by
        unfold rdyZ rdyM rdyV
        rw [if_pos (show P k < n from x1), if_pos (Or.inr hl)]
      have := layTo_neg (crs := crsM ν w) (Y := Y) (i := P k) (d := rdyZ ν w n μ (P k) (B k) (F (B k))) n 0 e1
      rw [Nat.zero_add] at this
      exact this
    · have hlb := lay_b (n := n) (rdy := rdyZ ν w n μ) (crs := crsM ν w) (F := F) (Y := Y) (i := P a) (g := B a) hrz (fun j _ => hY j)
      exact sched_lead h d (a + 1) _ _ (fun j => by
        by_cases ej : j = P a
        · subst ej; rw [upf_same]; exact hlb.1
        · rw [upf_ne ej]; exact hY j) x6 k (by omega) (by omega)
/-- a choice that goes, and the day it ends -/
def Vd (ν : Mem) (w : Nat → Nat) (n : Nat) (μ : Mem) (GG : Nat) (now : Int) (P B : Nat → Nat) : Prop := (∀ k, k < n → P k < n) ∧ (∀ k, k < n → B k < GG) ∧ sched n (rdyZ ν w n μ) (crsM ν w) 3000 (plz P B 0 n) (fun _ => now) (fun _ => -1)
noncomputable def valP (ν : Mem) (w : Nat → Nat) (n : Nat) (μ : Mem) (now : Int) (P B : Nat → Nat) : Int := ldy n (rdyZ ν w n μ) (crsM ν w) (plz P B 0 n) (fun _ => now) (fun _ => -1) 0
def tbP (ν : Mem) (w : Nat → Nat) (n : Nat) (μ : Mem) (now : Int) (η : Mem) (P B : Nat → Nat) : Prop := (∀ k, k < n → η 325 k = (w (P k) : Int) ∧ η 326 k = (B k : Int)) ∧ tellR n (rdyZ ν w n μ) (crsM ν w) (η 327) (η 328) (plz P B 0 n) 0 (fun _ => now) (fun _ => -1)
set_option maxHeartbeats 2000000 in
theorem r_one (h : PR ν w n μ) {ρ η : Mem} (hq : PQ ν w n μ ρ) (hf : rS ρ η) {GG : Nat} (hGG : μ 6 5 = (GG : Int)) (hnow : μ 6 9 ≤ 3001) {P B : Nat → Nat} (hPn : ∀ k, k < n → P k < n) (hinj : ∀ j k, j < k → k < n → P j ≠ P k) (hB : ∀ k, k < n → B k < GG) (hrow : ∀ i, i < n → η 321 i = (w (P i) : Int) ∧ η 322 i = (B i : Int)) (m : Nat) (v : Int) : ∃ (v' : Int) (η' : Mem), f_X11_gangs__24 (m + 1) v 1 η = bd (f_X11_goesOnB η' (GG : Int)) (fun r μ3 => f_X11_gangs__24 m v' r μ3) ∧ rS ρ η' ∧ η' 321 = η 321 ∧ η' 322 = η 322 ∧ η' 399 = η 399 ∧ ((Vd ν w n μ GG (μ 6 9) P B ∧ (v = -1 ∨ valP ν w n μ (μ 6 9) P B < v) ∧ v' = valP ν w n μ (μ 6 9) P B ∧ tbP ν w n μ (μ 6 9) η' P B) ∨ (¬ (Vd ν w n μ GG (μ 6 9) P B ∧ (v = -1 ∨ valP ν w n μ (μ 6 9) P B < v)) ∧ v' = v ∧ η' 325 = η 325 ∧ η' 326 = η 326 ∧ η' 327 = η 327 ∧ η' 328 = η 328)) := by
  have hn5 := h.2.2.2.2.1.2.2
  have hn1 := h.2.2.2.2.1.2.1
  have n0 := sN_n (sN_of h.1)
  have n9 := h.1.1.1
  have hB' : ∀ k, k < n → (B k : Int) < μ 6 5 := fun k hk => by have := hB k hk; omega
  obtain ⟨v4, a1, a2⟩ := r_34 h hq hf (k24 := f_X11_gangs__24 m) (v2 := v) hPn hB' hrow n 8000 0 (by omega) (by omega)
  rw [show ((0 : Nat) : Int) = 0 from rfl] at a1
  have e2 : η 300 2 = (GG : Int) := by rw [hf 300 (by omega) (by omega), hq.2.1 2 (by decide)]; omega
  have e1 : η 300 1 = μ 6 9 := by rw [hf 300 (by omega) (by omega), hq.2.1 1 (by decide)]; exact n9
  obtain ⟨η1, b1, b2, b3⟩ := r_77 (k24 := f_X11_gangs__24 m) (v2 := v) (v4 := v4) (GG := GG) (by omega) (now := μ 6 9) GG 8000 0 η (by omega) (by omega) e2 e1 (fun g' hg' => by omega)
  rw [show ((0 : Nat) : Int) = 0 from rfl] at b1
  have hf1 : rS ρ η1 := fun a x1 x2 => by rw [b2 a (by omega)]; exact hf a x1 x2
  have h32 : η1 300 32 = (n : Int) := by rw [b2 300 (by decide), hf 300 (by omega) (by omega)]; exact hq.2.2.1
  have start : f_X11_gangs__24 (m + 1) v 1 η = f_X11_gangs__109 (f_X11_gangs__24 m) 8000 v v4 0 0 η1 := by
    rw [f_X11_gangs__24_e, if_neg (by decide), a1, b1]
  -- how a refused or worse choice goes on
  have skip : ∀ (η2 : Mem) (l v4' : Int), (∀ a, a ≠ 323 → a ≠ 324 → a ≠ 329 → η2 a = η1 a) → f_X11_gangs__24 (m + 1) v 1 η = f_X11_gangs__163 (f_X11_gangs__24 m) v v4' l η2 → (v4' = 0 ∨ (v4' = 1 ∧ v ≠ -1 ∧ v ≤ l)) → ¬ (Vd ν w n μ GG (μ 6 9) P B ∧ (v = -1 ∨ valP ν w n μ (μ 6 9) P B < v)) → ∃ (v' : Int) (η' : Mem), f_X11_gangs__24 (m + 1) v 1 η = bd (f_X11_goesOnB η' (GG : Int)) (fun r μ3 => f_X11_gangs__24 m v' r μ3) ∧ rS ρ η' ∧ η' 321 = η 321 ∧ η' 322 = η 322 ∧ η' 399 = η 399 ∧ ((Vd ν w n μ GG (μ 6 9) P B ∧ (v = -1 ∨ valP ν w n μ (μ 6 9) P B < v) ∧ v' = valP ν w n μ (μ 6 9) P B ∧ tbP ν w n μ (μ 6 9) η' P B) ∨ (¬ (Vd ν w n μ GG (μ 6 9) P B ∧ (v = -1 ∨ valP ν w n μ (μ 6 9) P B < v)) ∧ v' = v ∧ η' 325 = η 325 ∧ η' 326 = η 326 ∧ η' 327 = η 327 ∧ η' 328 = η 328)) := by
    intro η2 l v4' x1 x2 x3 x4
    have y : ∀ a, a ≠ 323 → a ≠ 324 → a ≠ 329 → η2 a = η a := fun a z1 z2 z3 => (x1 a z1 z2 z3).trans (b2 a z3)
    refine ⟨v, η2, ?_, fun a z1 z2 => by rw [x1 a (by omega) (by omega) (by omega)]; exact hf1 a z1 z2, y 321 (by decide) (by decide) (by decide), y 322 (by decide) (by decide) (by decide), y 399 (by decide) (by decide) (by decide), Or.inr ⟨x4, rfl, y 325 (by decide) (by decide) (by decide), y 326 (by decide) (by decide) (by decide), y 327 (by decide) (by decide) (by decide), y 328 (by decide) (by decide) (by decide)⟩⟩
    rw [x2]
    unfold f_X11_gangs__163
    rw [y 300 (by decide) (by decide) (by decide), e2]
    rcases x3 with x3 | ⟨x3, x5, x6⟩
    · rw [if_pos x3]
    · rw [if_neg (by omega), if_neg x5, if_pos x6]
  rcases a2 with ⟨v41, hlead⟩ | ⟨v40, j, j1, j2, j3⟩
  case inr =>
    refine skip η1 0 0 (fun _ _ _ _ => rfl) ?_ (Or.inl rfl) (fun x => ?_)
    · rw [start, v40, show (8000 : Nat) = 7999 + 1 from rfl, f_X11_gangs__109_e, if_neg (by omega), if_pos rfl]
    · exact sched_lead h n 0 _ _ (fun _ => by decide) x.1.2.2 j j1 (by omega) j3
  subst v41
  obtain ⟨v4', last', η2, c1, c2, c3, c4⟩ := r_109 h hq (k24 := f_X11_gangs__24 m) (v2 := v) hPn hinj hB' (fun k hk => hlead k (Nat.zero_le _) hk) n 0 8000 η1 0 (fun _ => -1) (by omega) (by omega) hf1 (fun i hi => by rw [b2 321 (by decide), b2 322 (by decide)]; exact hrow i hi) (fun g hg => by rw [b3 g (by omega)]; omega) (fun m hm => by omega) (fun _ _ _ => rfl) (fun _ => by decide)
  rw [show ((0 : Nat) : Int) = 0 from rfl] at c1
  have mem : ∀ p ∈ plz P B 0 n, p.2 < GG := fun p hp => by
    obtain ⟨k, k1, k2, k3⟩ := plz_mem n 0 p hp
    rw [k3]
    exact hB k (by omega)
  rcases c4 with ⟨x1, x2, x3, x4⟩ | ⟨x1, x2⟩
  · have hV : Vd ν w n μ GG (μ 6 9) P B := ⟨hPn, hB, sched_cong (S := fun g => g < GG) _ _ _ _ _ mem b3 (fun _ _ => rfl) x2⟩
    have hval : last' = valP ν w n μ (μ 6 9) P B := by
      rw [x3]
      exact ldy_cong (S := fun g => g < GG) _ _ _ _ _ _ mem b3 (fun _ _ => rfl)
    by_cases c : v = -1 ∨ valP ν w n μ (μ 6 9) P B < v
    · obtain ⟨η3, d1, d2, -, d4⟩ := r_185 (n := n) (k24 := f_X11_gangs__24 m) (v2 := last') hn5 n 8000 0 η2 (by omega) (by omega) (by rw [c2 300 (by decide) (by decide) (by decide)]; exact h32)
      rw [show ((0 : Nat) : Int) = 0 from rfl] at d1
      have y : ∀ a, a ≠ 323 → a ≠ 324 → a ≠ 329 → ¬ (325 ≤ a ∧ a ≤ 328) → η3 a = η a := fun a z1 z2 z3 z4 => by rw [d2 a z4, c2 a z1 z2 z3, b2 a z3]
      refine ⟨last', η3, ?_, fun a z1 z2 => by rw [d2 a (by omega), c2 a (by omega) (by omega) (by omega)]; exact hf1 a z1 z2, y 321 (by decide) (by decide) (by decide) (by decide), y 322 (by decide) (by decide) (by decide) (by decide), y 399 (by decide) (by decide) (by decide) (by decide), Or.inl ⟨hV, c, hval, ?_, ?_⟩⟩
      · have e163 : f_X11_gangs__163 (f_X11_gangs__24 m) v v4' last' η2 = f_X11_gangs__185 (f_X11_gangs__24 m) 8000 last' 0 η2 := by
          unfold f_X11_gangs__163
          rw [x1, if_neg (by decide)]
          by_cases cv : v = -1
          · rw [if_pos cv]
          · rw [if_neg cv, if_neg (by omega)]
        rw [start, c1, e163, d1, y 300 (by decide) (by decide) (by decide) (by decide), e2]
      · intro k hk
        obtain ⟨z1, z2, -, -⟩ := d4 k (Nat.zero_le _) hk
        rw [z1, z2, c2 321 (by decide) (by decide) (by decide), c2 322 (by decide) (by decide) (by decide), b2 321 (by decide), b2 322 (by decide)]
        exact hrow k hk
      · have tl : ∀ (d a : Nat) (F Y : Nat → Int), a + d = n → tellR n (rdyZ ν w n μ) (crsM ν w) (η2 323) (η2 324) (plz P B a d) a F Y → tellR n (rdyZ ν w n μ) (crsM ν w) (η3 327) (η3 328) (plz P B a d) a F Y := by
          intro d
          induction d with
          | zero => intro _ _ _ _ _; exact trivial
          | succ d ih =>
            intro a F Y had ht
            rw [plz_e] at ht ⊢
            obtain ⟨⟨t1, t2⟩, t3⟩ := ht
            obtain ⟨-, -, z3, z4⟩ := d4 a (Nat.zero_le _) (by omega)
            exact ⟨⟨by rw [z3]; exact t1, by rw [z4]; exact t2⟩, ih (a + 1) _ _ (by omega) t3⟩
        exact tellR_cong (S := fun g => g < GG) _ _ _ _ _ _ mem b3 (fun _ _ => rfl) (tl n 0 _ _ (by omega) x4)
    · refine skip η2 last' 1 c2 (by rw [start, c1, x1]) (Or.inr ⟨rfl, fun z => c (Or.inl z), ?_⟩) (fun x => c x.2)
      rw [hval]
      by_cases z : v ≤ valP ν w n μ (μ 6 9) P B
      · exact z
      · exact absurd (Or.inr (by omega)) c
  · refine skip η2 last' 0 c2 (by rw [start, c1, x1]) (Or.inl rfl) (fun x => x2 ?_)
    exact sched_cong (S := fun g => g < GG) _ _ _ _ _ mem (fun g hg => (b3 g hg).symm) (fun _ _ => rfl) x.1.2.2
end PR3
