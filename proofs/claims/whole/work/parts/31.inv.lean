/-! THE QUARREL, said once for both sides: masks are properties of places -/
def borderP (n : Int) (g f t : Nat → Int) (M : Nat → Prop) (G d : Int) : Prop := ∃ i : Nat, (i : Int) < n ∧ M i ∧ g i = G ∧ (d = f i ∨ d = t i + 1)
def feas (n : Int) (g f t c : Nat → Int) (M : Nat → Prop) (G : Int) : Prop :=
  ∃ x : Int → Int, (∀ d e : Int, borderP n g f t M G d → borderP n g f t M G e → d ≤ e → x d ≤ x e) ∧ ∀ i : Nat, (i : Int) < n → M i → g i = G → x (t i + 1) - x (f i) = c i
def agr (n : Int) (g f t c : Nat → Int) (M : Nat → Prop) : Prop := ∀ G : Int, 0 ≤ G → G < 6 → feas n g f t c M G
def qrun (n : Int) (g f t c : Nat → Int) : Nat → (Nat → Prop) → Nat → Prop
  | 0, M => M
  | k + 1, M => qrun n g f t c k (fun i => M i ∧ (i = k → agr n g f t c (fun j => M j ∧ j ≠ k)))
def quar (n : Int) (g f t c : Nat → Int) (i : Nat) : Prop := (i : Int) < n ∧ ¬ agr n g f t c (fun j => (j : Int) < n) ∧ qrun n g f t c n.toNat (fun j => (j : Int) < n) i
def Iq (n judged q : Int) (g f t c : Nat → Int) : Prop :=
  0 ≤ judged ∧ judged ≤ n ∧ (judged = n → 0 ≤ q ∧ q < 1048576 ∧ ∀ i : Nat, q.toNat.testBit i = true ↔ quar n g f t c i)
/-- ALL THAT IS KEPT -/
def Inv (μ : Mem) : Prop :=
  Iboat (μ 2 2) (μ 300 3) (μ 2 3) (μ 300 15) (μ 14) (μ 15) (μ 306) (μ 307) ∧
  Ispell (μ 1 3) (μ 300 4) (μ 9) (μ 10) (μ 11) (μ 308) (μ 309) (μ 310) ∧
  Iruns (μ 1 3) (μ 9) (μ 10) (μ 11) (μ 1 6) (μ 12) (μ 13) ∧
  Itape (μ 3 1) (μ 300 19) (μ 16) (μ 311) ∧
  Itab (μ 17) (μ 312) ∧
  Isite μ ∧ Irefs μ ∧
  Iplan (μ 7 17) (μ 300 33) μ ∧
  Itally (μ 8 5) (μ 300 45) (μ 32) (μ 33) (μ 34) (μ 35) (μ 331) (μ 332) (μ 333) (μ 334) ∧
  Iq (μ 8 5) (μ 8 7) (μ 8 6) (μ 32) (μ 33) (μ 34) (μ 35)
theorem Isite_fr {μ μ' : Mem} (h : Isite μ) (hf : ∀ a, a = 6 ∨ a = 19 ∨ a = 20 ∨ a = 90 ∨ (100 ≤ a ∧ a < 300) ∨ (301 ≤ a ∧ a ≤ 305) ∨ (315 ≤ a ∧ a ≤ 319) → μ' a = μ a) (h1 : μ' 300 1 = μ 300 1) (h2 : μ' 300 2 = μ 300 2) (h3 : μ' 300 16 = μ 300 16) (h4 : μ' 300 17 = μ 300 17) (h5 : μ' 300 26 = μ 300 26) : Isite μ' := by
  have e6 := hf 6 (by omega)
  have e19 := hf 19 (by omega)
  have e20 := hf 20 (by omega)
  have e90 := hf 90 (by omega)
  have e1 := hf 301 (by omega)
  have e2 := hf 302 (by omega)
  have e3 := hf 303 (by omega)
  have e4 := hf 304 (by omega)
  have e5 := hf 305 (by omega)
  have s1 := hf 315 (by omega)
  have s2 := hf 316 (by omega)
  have s3 := hf 317 (by omega)
  have s4 := hf 318 (by omega)
  have s5 := hf 319 (by omega)
  obtain ⟨a1, a2, a3, a4, a5, a6, a7, a8, a9, a10, a11, a12, a13, a14, a15, a16, a17, a18, ⟨g1, g2⟩, ⟨t1, t2⟩, w1, w2, w3, w4⟩ := h
  have hg : ∀ g : Nat, (g : Int) < μ 6 5 → μ' (200 + g) = μ (200 + g) := fun g hg => hf _ (by omega)
  have hk : ∀ k : Nat, (k : Int) < μ 6 6 → μ' (100 + k) = μ (100 + k) := fun k hk => hf _ (by omega)
  unfold Isite Igang Istone Iwork
  rw [h1, h2, h3, h4, h5, e6, e90, e1, e2, e3, e4, e5, s1, s2, s3, s4, s5, e19, e20]
  refine ⟨a1, a2, a3, a4, a5, a6, a7, a8, a9, a10, a11, a12, a13, a14, a15, a16, a17, a18, ⟨fun g q => ?_, g2⟩, ⟨fun k q => ?_, t2⟩, fun k g q q2 => ?_, w2, w3, w4⟩
  · rw [hg g q]; exact g1 g q
  · rw [hk k q]; exact t1 k q
  · rw [hk k q]; exact w1 k g q q2
theorem Irefs_fr {μ μ' : Mem} (h : Irefs μ) (h1 : μ' 19 = μ 19) (h2 : μ' 20 = μ 20) (h3 : μ' 21 = μ 21) (h4 : μ' 90 = μ 90) : Irefs μ' := by
  unfold Irefs
  rw [h1, h2, h3, h4]
  exact h
theorem Iplan_fr {p p' : Int} {μ μ' : Mem} (h : Iplan p p' μ) (hf : ∀ a, (45 ≤ a ∧ a < 50) ∨ (325 ≤ a ∧ a ≤ 328) → μ' a = μ a) : Iplan p p' μ' := by
  obtain ⟨h1, h2, h3, h4⟩ := h
  refine ⟨h1, h2, h3, fun k hk => ?_⟩
  rw [hf (45 + k) (by omega), hf 325 (by omega), hf 326 (by omega), hf 327 (by omega), hf 328 (by omega)]
  exact h4 k hk
/-- a number's place in what was kept, when the memory was changed elsewhere -/
theorem up_same {μ : Mem} {o k : Nat} {v : Int} : up μ o k v o k = v := by simp [up, upf]
theorem up_other {μ : Mem} {o k j : Nat} {v : Int} (h : j ≠ k) : up μ o k v o j = μ o j := by simp [up, upf, h]
theorem Inv_bb {μ : Mem} (h : Inv μ) : (0 ≤ μ 90 0 ∧ μ 90 0 < 100 ∧ 0 ≤ μ 90 1 ∧ μ 90 1 < 100) ∧ (∀ a, refA a = true → ∀ j, μ a j < 0 ∨ (μ a j).toNat ≠ 100 + (μ 90 0).toNat) ∧ (∀ a, refA a = true → ∀ j, μ a j < 0 ∨ (μ a j).toNat ≠ 200 + (μ 90 1).toNat) := by
  obtain ⟨-, -, -, -, -, hs, ⟨r1, r2, r3⟩, -⟩ := h
  obtain ⟨a1, a2, a3, a4, a5, a6, a7, a8, a9, a10, a11, -, -, -, -, -, -, -, ⟨g1, -⟩, -⟩ := hs
  refine ⟨by omega, fun a ha j => ?_, fun a ha j => ?_⟩
  · unfold refA at ha
    simp only [Bool.or_eq_true, beq_iff_eq] at ha
    rcases ha with (rfl | rfl) | rfl
    · have := r1 j; omega
    · have := r2 j; omega
    · have := r3 j; omega
  · unfold refA at ha
    simp only [Bool.or_eq_true, beq_iff_eq] at ha
    rcases ha with (rfl | rfl) | rfl
    · have := r1 j; omega
    · have := r2 j; omega
    · have := r3 j; omega
