/-! THE PURE SIDE: what a function of memories comes to -/
def wp (x : Option (Int × Mem)) (P : Int → Mem → Prop) : Prop := match x with
  | some q => P q.1 q.2
  | none => False
theorem wp_ret {r : Int} {μ : Mem} {P : Int → Mem → Prop} : wp (some (r, μ)) P = P r μ := rfl
theorem wp_none {P : Int → Mem → Prop} : wp none P = False := rfl
theorem wp_lm {m : Mem} {k : Mem → Option (Int × Mem)} {P : Int → Mem → Prop} : wp (lm m k) P = wp (k m) P := rfl
theorem wp_bd {x : Option (Int × Mem)} {k : Int → Mem → Option (Int × Mem)} {P : Int → Mem → Prop} : wp (bd x k) P = wp x (fun r μ => wp (k r μ) P) := by
  cases x <;> rfl
theorem wp_if {c : Prop} [Decidable c] {a b : Option (Int × Mem)} {P : Int → Mem → Prop} : wp (if c then a else b) P = if c then wp a P else wp b P := by
  split <;> rfl
theorem wp_mono {x : Option (Int × Mem)} {P Q : Int → Mem → Prop} (h : wp x P) (hm : ∀ r μ, P r μ → Q r μ) : wp x Q := by
  cases x with
  | none => exact h
  | some q => exact hm _ _ h
theorem wp_some {x : Option (Int × Mem)} {P : Int → Mem → Prop} (h : wp x P) : ∃ r μ, x = some (r, μ) ∧ P r μ := by
  cases x with
  | none => exact absurd h id
  | some q => exact ⟨q.1, q.2, rfl, h⟩
theorem wp_of {x : Option (Int × Mem)} {r : Int} {μ : Mem} {P : Int → Mem → Prop} (h : x = some (r, μ)) (hp : P r μ) : wp x P := by
  rw [h]; exact hp
/-- a condition that holds, one that doesn't -/
theorem wp_t {c : Prop} [Decidable c] {a b : Option (Int × Mem)} {P : Int → Mem → Prop} (h : c) (k : wp a P) : wp (if c then a else b) P := by
  rw [if_pos h]; exact k
theorem wp_f {c : Prop} [Decidable c] {a b : Option (Int × Mem)} {P : Int → Mem → Prop} (h : ¬ c) (k : wp b P) : wp (if c then a else b) P := by
  rw [if_neg h]; exact k
theorem wp_c {c : Prop} [Decidable c] {a b : Option (Int × Mem)} {P : Int → Mem → Prop} (h1 : c → wp a P) (h2 : ¬ c → wp b P) : wp (if c then a else b) P := by
  by_cases h : c
  · rw [if_pos h]; exact h1 h
  · rw [if_neg h]; exact h2 h
theorem same0_of {Inv : Mem → Prop} {f g : Mem → Option (Int × Mem)} {μ : Mem} (h : wp (f μ) (fun r μ1 => μ1 90 = μ 90 ∧ wp (g μ1) (fun r2 μ2 => r2 = r ∧ μ2 90 = μ1 90 ∧ Inv μ2))) : Same0 Inv f g μ := by
  obtain ⟨r, μ1, h1, h2, h3⟩ := wp_some h
  obtain ⟨r2, μ2, h4, rfl, h6, h7⟩ := wp_some h3
  exact ⟨r2, μ1, μ2, h1, h4, h2, h6, h7⟩
theorem same_of {Inv : Mem → Prop} {f g : Mem → Option (Int × Mem)} {μ : Mem} (h : wp (f μ) (fun r μ1 => wp (g μ1) (fun r2 μ2 => r2 = r ∧ μ2 90 = μ1 90 ∧ Inv μ2))) : Same Inv f g μ := by
  obtain ⟨r, μ1, h1, h3⟩ := wp_some h
  obtain ⟨r2, μ2, h4, rfl, h6, h7⟩ := wp_some h3
  exact ⟨r2, μ1, μ2, h1, h4, h6, h7⟩
noncomputable def b2i (p : Prop) : Int := @ite Int p (Classical.propDecidable p) 1 0
theorem b2i_t {p : Prop} (h : p) : b2i p = 1 := if_pos h
theorem b2i_f {p : Prop} (h : ¬ p) : b2i p = 0 := if_neg h
theorem b2i_01 (p : Prop) : b2i p = 0 ∨ b2i p = 1 := by
  by_cases h : p
  · exact Or.inr (b2i_t h)
  · exact Or.inl (b2i_f h)
theorem b2i_cong {p q : Prop} (h : p ↔ q) : b2i p = b2i q := by rw [propext h]
theorem b2i_0 {p : Prop} : b2i p = 0 ↔ ¬ p := by
  by_cases h : p
  · rw [b2i_t h]; simp [h]
  · rw [b2i_f h]; simp [h]
theorem b2i_1 {p : Prop} : b2i p = 1 ↔ p := by
  by_cases h : p
  · rw [b2i_t h]; simp [h]
  · rw [b2i_f h]; simp [h]
/-! THE KEPT: what the two sides' memories have to do with each other -/
def Iboat (b b' food food' : Int) (d l d' l' : Nat → Int) : Prop :=
  b' = b ∧ 0 ≤ b ∧ b ≤ 40 ∧ food' = food ∧ 0 ≤ food ∧ food ≤ 10000000 ∧ ∀ i : Nat, (i : Int) < b → d' i = d i ∧ l' i = l i ∧ 1 ≤ l i ∧ l i ≤ 1000000
def Ispell (n n' : Int) (k f t k' f' t' : Nat → Int) : Prop :=
  n' = n ∧ 0 ≤ n ∧ n ≤ 40 ∧ ∀ i : Nat, (i : Int) < n → k' i = k i ∧ f' i = f i ∧ t' i = t i ∧ 0 ≤ f i ∧ f i ≤ t i ∧ t i ≤ 3000
def isOnP (n : Int) (k f t : Nat → Int) (kind day : Int) : Prop := ∃ i : Nat, (i : Int) < n ∧ k i = kind ∧ f i ≤ day ∧ day ≤ t i
def Iruns (n : Int) (k f t : Nat → Int) (R : Int) (rf rl : Nat → Int) : Prop :=
  0 ≤ R ∧ R ≤ n ∧ (∀ i : Nat, (i : Int) < R → 0 ≤ rf i ∧ rf i ≤ rl i ∧ rl i ≤ 3000) ∧ (∀ i : Nat, ((i + 1 : Nat) : Int) < R → rl i + 1 < rf (i + 1)) ∧ ∀ d : Int, (∃ i : Nat, (i : Int) < R ∧ rf i ≤ d ∧ d ≤ rl i) ↔ isOnP n k f t 0 d
def Itape (T T' : Int) (b b' : Nat → Int) : Prop :=
  T' = T ∧ 0 ≤ T ∧ T ≤ 200 ∧ ∀ i : Nat, (i : Int) < T → b' i = b i ∧ -128 ≤ b i ∧ b i < 128
def Itab (t t' : Nat → Int) : Prop := ∀ i : Nat, i < 9 → t' i = t i ∧ 1 ≤ t i ∧ t i ≤ 200 ∧ (i < 7 → t i ≤ 99)
/-- the gangs: men, work, left, laid, still -/
def Igang (G now S : Int) (μ : Mem) : Prop :=
  (∀ g : Nat, (g : Int) < G → μ 19 g = 200 + (g : Int) ∧ μ (200 + g) 0 = μ 301 g ∧ μ (200 + g) 1 = μ 302 g ∧ μ (200 + g) 2 = μ 303 g ∧ μ (200 + g) 3 = μ 304 g ∧ μ (200 + g) 4 = μ 305 g ∧
    1 ≤ μ 301 g ∧ μ 301 g ≤ 200 ∧ -1 ≤ μ 302 g ∧ (μ 302 g < S ∨ μ 302 g = 30) ∧ 0 ≤ μ 303 g ∧ μ 303 g ≤ 10000 ∧ 0 ≤ μ 304 g ∧ μ 304 g ≤ now ∧ 0 ≤ μ 305 g ∧ μ 305 g ≤ now) ∧
  (∀ g : Nat, G ≤ (g : Int) → g < 6 → μ 302 g = -1 ∧ μ 303 g = 0 ∧ μ 304 g = 0 ∧ μ 305 g = 0)
/-- the stones: weight, course, state, worker, mark, laidOn -/
def Istone (S G : Int) (μ : Mem) : Prop :=
  (∀ k : Nat, (k : Int) < S → μ 20 k = 100 + (k : Int) ∧ μ (100 + k) 0 = μ 315 k ∧ μ (100 + k) 1 = μ 316 k ∧ μ (100 + k) 2 = μ 317 k ∧ μ (100 + k) 4 = μ 318 k ∧ μ (100 + k) 5 = μ 319 k ∧
    1 ≤ μ 315 k ∧ μ 315 k ≤ 99 ∧ 0 ≤ μ 316 k ∧ μ 316 k ≤ 9 ∧ 0 ≤ μ 317 k ∧ μ 317 k ≤ 6 ∧ (μ 317 k ≠ 5 → μ 318 k = -1) ∧
    -1 ≤ μ (100 + k) 3 ∧ μ (100 + k) 3 < G) ∧
  (∀ k : Nat, S ≤ (k : Int) → k < 30 → μ 317 k = 0)
/-- who works on what -/
def Iwork (S G high : Int) (μ : Mem) : Prop :=
  (∀ k g : Nat, (k : Int) < S → (g : Int) < G → (μ (100 + k) 3 = (g : Int) ↔ μ 302 g = (k : Int))) ∧
  (∀ g : Nat, (g : Int) < G → ∀ k : Nat, (k : Int) < S → μ 302 g = (k : Int) → μ 317 k ≤ 4) ∧
  (∀ g h : Nat, (g : Int) < G → (h : Int) < G → μ 302 g = 30 → μ 302 h = 30 → g = h) ∧
  (∀ g : Nat, (g : Int) < G → μ 302 g = 30 → high ≤ 9)
def sumTo (f : Nat → Int) : Nat → Int
  | 0 => 0
  | n + 1 => sumTo f n + f n
def Isite (μ : Mem) : Prop :=
  μ 300 1 = μ 6 9 ∧ 0 ≤ μ 6 9 ∧ μ 6 9 ≤ 3001 ∧ μ 300 2 = μ 6 5 ∧ 0 ≤ μ 6 5 ∧ μ 6 5 ≤ 6 ∧ μ 90 1 = μ 6 5 ∧ μ 300 26 = μ 6 6 ∧ 0 ≤ μ 6 6 ∧ μ 6 6 ≤ 30 ∧ μ 90 0 = μ 6 6 ∧
  μ 300 17 = μ 6 8 ∧ 0 ≤ μ 6 8 ∧ μ 6 8 ≤ 10 ∧ μ 300 16 = μ 6 10 ∧ 0 ≤ μ 6 10 ∧ μ 6 10 ≤ μ 6 9 ∧ μ 6 7 = sumTo (μ 301) (μ 6 5).toNat ∧
  Igang (μ 6 5) (μ 6 9) (μ 6 6) μ ∧ Istone (μ 6 6) (μ 6 5) μ ∧ Iwork (μ 6 6) (μ 6 5) (μ 6 8) μ
/-- references in rows -/
def Irefs (μ : Mem) : Prop := (∀ j, μ 19 j < 0 ∨ (200 ≤ μ 19 j ∧ μ 19 j < 200 + μ 90 1)) ∧ (∀ j, μ 20 j < 100 + μ 90 0) ∧ (∀ j, μ 21 j < 100 + μ 90 0)
def Iplan (p p' : Int) (μ : Mem) : Prop :=
  p' = p ∧ 0 ≤ p ∧ p ≤ 5 ∧ ∀ k : Nat, (k : Int) < p → μ (45 + k) 0 = μ 325 k ∧ μ (45 + k) 1 = μ 326 k ∧ μ (45 + k) 2 = μ 327 k ∧ μ (45 + k) 3 = μ 328 k
def Itally (n n' : Int) (g f t c g' f' t' c' : Nat → Int) : Prop :=
  n' = n ∧ 0 ≤ n ∧ n ≤ 20 ∧ ∀ i : Nat, (i : Int) < n → g' i = g i ∧ f' i = f i ∧ t' i = t i ∧ c' i = c i ∧ 0 ≤ g i ∧ g i < 6 ∧ 0 ≤ f i ∧ f i ≤ t i ∧ t i ≤ 3000 ∧ 0 ≤ c i ∧ c i ≤ 30
